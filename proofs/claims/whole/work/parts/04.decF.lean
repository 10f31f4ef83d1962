theorem d_F_init_0 : decode c_F_init 0 = .ok (.aload_n 0, 1) := by decide +kernel
theorem d_F_init_1 : decode c_F_init 1 = .ok (.invokespecial 3, 3) := by decide +kernel
theorem d_F_init_4 : decode c_F_init 4 = .ok (.aload_n 0, 1) := by decide +kernel
theorem d_F_init_5 : decode c_F_init 5 = .ok (.new 9, 3) := by decide +kernel
theorem d_F_init_8 : decode c_F_init 8 = .ok (.dup, 1) := by decide +kernel
theorem d_F_init_9 : decode c_F_init 9 = .ok (.invokespecial 11, 3) := by decide +kernel
theorem d_F_init_12 : decode c_F_init 12 = .ok (.putfield 12, 3) := by decide +kernel
theorem d_F_init_15 : decode c_F_init 15 = .ok (.aload_n 0, 1) := by decide +kernel
theorem d_F_init_16 : decode c_F_init 16 = .ok (.new 9, 3) := by decide +kernel
theorem d_F_init_19 : decode c_F_init 19 = .ok (.dup, 1) := by decide +kernel
theorem d_F_init_20 : decode c_F_init 20 = .ok (.invokespecial 11, 3) := by decide +kernel
theorem d_F_init_23 : decode c_F_init 23 = .ok (.putfield 18, 3) := by decide +kernel
theorem d_F_init_26 : decode c_F_init 26 = .ok (.return_, 1) := by decide +kernel
theorem d_F_dancerOrNull_0 : decode c_F_dancerOrNull 0 = .ok (.iload_n 1, 1) := by decide +kernel
theorem d_F_dancerOrNull_1 : decode c_F_dancerOrNull 1 = .ok (.ifCond .lt 28, 3) := by decide +kernel
theorem d_F_dancerOrNull_4 : decode c_F_dancerOrNull 4 = .ok (.iload_n 1, 1) := by decide +kernel
theorem d_F_dancerOrNull_5 : decode c_F_dancerOrNull 5 = .ok (.aload_n 0, 1) := by decide +kernel
theorem d_F_dancerOrNull_6 : decode c_F_dancerOrNull 6 = .ok (.getfield 12, 3) := by decide +kernel
theorem d_F_dancerOrNull_9 : decode c_F_dancerOrNull 9 = .ok (.invokevirtual 21, 3) := by decide +kernel
theorem d_F_dancerOrNull_12 : decode c_F_dancerOrNull 12 = .ok (.if_icmp .ge 17, 3) := by decide +kernel
theorem d_F_dancerOrNull_15 : decode c_F_dancerOrNull 15 = .ok (.aload_n 0, 1) := by decide +kernel
theorem d_F_dancerOrNull_16 : decode c_F_dancerOrNull 16 = .ok (.getfield 12, 3) := by decide +kernel
theorem d_F_dancerOrNull_19 : decode c_F_dancerOrNull 19 = .ok (.iload_n 1, 1) := by decide +kernel
theorem d_F_dancerOrNull_20 : decode c_F_dancerOrNull 20 = .ok (.invokevirtual 25, 3) := by decide +kernel
theorem d_F_dancerOrNull_23 : decode c_F_dancerOrNull 23 = .ok (.checkcast 29, 3) := by decide +kernel
theorem d_F_dancerOrNull_26 : decode c_F_dancerOrNull 26 = .ok (.goto 4, 3) := by decide +kernel
theorem d_F_dancerOrNull_29 : decode c_F_dancerOrNull 29 = .ok (.aconst_null, 1) := by decide +kernel
theorem d_F_dancerOrNull_30 : decode c_F_dancerOrNull 30 = .ok (.areturn, 1) := by decide +kernel
theorem d_F_whoIsAt_0 : decode c_F_whoIsAt 0 = .ok (.iconst 0, 1) := by decide +kernel
theorem d_F_whoIsAt_1 : decode c_F_whoIsAt 1 = .ok (.istore_n 3, 1) := by decide +kernel
theorem d_F_whoIsAt_2 : decode c_F_whoIsAt 2 = .ok (.iload_n 3, 1) := by decide +kernel
theorem d_F_whoIsAt_3 : decode c_F_whoIsAt 3 = .ok (.aload_n 0, 1) := by decide +kernel
theorem d_F_whoIsAt_4 : decode c_F_whoIsAt 4 = .ok (.getfield 12, 3) := by decide +kernel
theorem d_F_whoIsAt_7 : decode c_F_whoIsAt 7 = .ok (.invokevirtual 21, 3) := by decide +kernel
theorem d_F_whoIsAt_10 : decode c_F_whoIsAt 10 = .ok (.if_icmp .ge 43, 3) := by decide +kernel
theorem d_F_whoIsAt_13 : decode c_F_whoIsAt 13 = .ok (.aload_n 0, 1) := by decide +kernel
theorem d_F_whoIsAt_14 : decode c_F_whoIsAt 14 = .ok (.getfield 12, 3) := by decide +kernel
theorem d_F_whoIsAt_17 : decode c_F_whoIsAt 17 = .ok (.iload_n 3, 1) := by decide +kernel
theorem d_F_whoIsAt_18 : decode c_F_whoIsAt 18 = .ok (.invokevirtual 25, 3) := by decide +kernel
theorem d_F_whoIsAt_21 : decode c_F_whoIsAt 21 = .ok (.checkcast 29, 3) := by decide +kernel
theorem d_F_whoIsAt_24 : decode c_F_whoIsAt 24 = .ok (.astore 4, 2) := by decide +kernel
theorem d_F_whoIsAt_26 : decode c_F_whoIsAt 26 = .ok (.aload 4, 2) := by decide +kernel
theorem d_F_whoIsAt_28 : decode c_F_whoIsAt 28 = .ok (.getfield 31, 3) := by decide +kernel
theorem d_F_whoIsAt_31 : decode c_F_whoIsAt 31 = .ok (.iload_n 1, 1) := by decide +kernel
theorem d_F_whoIsAt_32 : decode c_F_whoIsAt 32 = .ok (.if_icmp .ne 15, 3) := by decide +kernel
theorem d_F_whoIsAt_35 : decode c_F_whoIsAt 35 = .ok (.aload 4, 2) := by decide +kernel
theorem d_F_whoIsAt_37 : decode c_F_whoIsAt 37 = .ok (.getfield 35, 3) := by decide +kernel
theorem d_F_whoIsAt_40 : decode c_F_whoIsAt 40 = .ok (.iload_n 2, 1) := by decide +kernel
theorem d_F_whoIsAt_41 : decode c_F_whoIsAt 41 = .ok (.if_icmp .ne 6, 3) := by decide +kernel
theorem d_F_whoIsAt_44 : decode c_F_whoIsAt 44 = .ok (.aload 4, 2) := by decide +kernel
theorem d_F_whoIsAt_46 : decode c_F_whoIsAt 46 = .ok (.areturn, 1) := by decide +kernel
theorem d_F_whoIsAt_47 : decode c_F_whoIsAt 47 = .ok (.iinc 3 1, 3) := by decide +kernel
theorem d_F_whoIsAt_50 : decode c_F_whoIsAt 50 = .ok (.goto (-48), 3) := by decide +kernel
theorem d_F_whoIsAt_53 : decode c_F_whoIsAt 53 = .ok (.aconst_null, 1) := by decide +kernel
theorem d_F_whoIsAt_54 : decode c_F_whoIsAt 54 = .ok (.areturn, 1) := by decide +kernel
theorem d_F_areBeside_0 : decode c_F_areBeside 0 = .ok (.aload_n 0, 1) := by decide +kernel
theorem d_F_areBeside_1 : decode c_F_areBeside 1 = .ok (.iload_n 1, 1) := by decide +kernel
theorem d_F_areBeside_2 : decode c_F_areBeside 2 = .ok (.invokevirtual 38, 3) := by decide +kernel
theorem d_F_areBeside_5 : decode c_F_areBeside 5 = .ok (.astore_n 3, 1) := by decide +kernel
theorem d_F_areBeside_6 : decode c_F_areBeside 6 = .ok (.aload_n 0, 1) := by decide +kernel
theorem d_F_areBeside_7 : decode c_F_areBeside 7 = .ok (.iload_n 2, 1) := by decide +kernel
theorem d_F_areBeside_8 : decode c_F_areBeside 8 = .ok (.invokevirtual 38, 3) := by decide +kernel
theorem d_F_areBeside_11 : decode c_F_areBeside 11 = .ok (.astore 4, 2) := by decide +kernel
theorem d_F_areBeside_13 : decode c_F_areBeside 13 = .ok (.aload_n 3, 1) := by decide +kernel
theorem d_F_areBeside_14 : decode c_F_areBeside 14 = .ok (.ifnull 21, 3) := by decide +kernel
theorem d_F_areBeside_17 : decode c_F_areBeside 17 = .ok (.aload 4, 2) := by decide +kernel
theorem d_F_areBeside_19 : decode c_F_areBeside 19 = .ok (.ifnull 16, 3) := by decide +kernel
theorem d_F_areBeside_22 : decode c_F_areBeside 22 = .ok (.aload_n 3, 1) := by decide +kernel
theorem d_F_areBeside_23 : decode c_F_areBeside 23 = .ok (.aload 4, 2) := by decide +kernel
theorem d_F_areBeside_25 : decode c_F_areBeside 25 = .ok (.invokevirtual 42, 3) := by decide +kernel
theorem d_F_areBeside_28 : decode c_F_areBeside 28 = .ok (.ifCond .eq 7, 3) := by decide +kernel
theorem d_F_areBeside_31 : decode c_F_areBeside 31 = .ok (.iconst 1, 1) := by decide +kernel
theorem d_F_areBeside_32 : decode c_F_areBeside 32 = .ok (.goto 4, 3) := by decide +kernel
theorem d_F_areBeside_35 : decode c_F_areBeside 35 = .ok (.iconst 0, 1) := by decide +kernel
theorem d_F_areBeside_36 : decode c_F_areBeside 36 = .ok (.ireturn, 1) := by decide +kernel
theorem d_F_restartBehindTheEndOf_0 : decode c_F_restartBehindTheEndOf 0 = .ok (.iconst 0, 1) := by decide +kernel
theorem d_F_restartBehindTheEndOf_1 : decode c_F_restartBehindTheEndOf 1 = .ok (.istore_n 2, 1) := by decide +kernel
theorem d_F_restartBehindTheEndOf_2 : decode c_F_restartBehindTheEndOf 2 = .ok (.iload_n 2, 1) := by decide +kernel
theorem d_F_restartBehindTheEndOf_3 : decode c_F_restartBehindTheEndOf 3 = .ok (.aload_n 0, 1) := by decide +kernel
theorem d_F_restartBehindTheEndOf_4 : decode c_F_restartBehindTheEndOf 4 = .ok (.getfield 12, 3) := by decide +kernel
theorem d_F_restartBehindTheEndOf_7 : decode c_F_restartBehindTheEndOf 7 = .ok (.invokevirtual 21, 3) := by decide +kernel
theorem d_F_restartBehindTheEndOf_10 : decode c_F_restartBehindTheEndOf 10 = .ok (.if_icmp .ge 45, 3) := by decide +kernel
theorem d_F_restartBehindTheEndOf_13 : decode c_F_restartBehindTheEndOf 13 = .ok (.aload_n 0, 1) := by decide +kernel
theorem d_F_restartBehindTheEndOf_14 : decode c_F_restartBehindTheEndOf 14 = .ok (.getfield 12, 3) := by decide +kernel
theorem d_F_restartBehindTheEndOf_17 : decode c_F_restartBehindTheEndOf 17 = .ok (.iload_n 2, 1) := by decide +kernel
theorem d_F_restartBehindTheEndOf_18 : decode c_F_restartBehindTheEndOf 18 = .ok (.invokevirtual 25, 3) := by decide +kernel
theorem d_F_restartBehindTheEndOf_21 : decode c_F_restartBehindTheEndOf 21 = .ok (.checkcast 29, 3) := by decide +kernel
theorem d_F_restartBehindTheEndOf_24 : decode c_F_restartBehindTheEndOf 24 = .ok (.astore_n 3, 1) := by decide +kernel
theorem d_F_restartBehindTheEndOf_25 : decode c_F_restartBehindTheEndOf 25 = .ok (.aload_n 3, 1) := by decide +kernel
theorem d_F_restartBehindTheEndOf_26 : decode c_F_restartBehindTheEndOf 26 = .ok (.getfield 46, 3) := by decide +kernel
theorem d_F_restartBehindTheEndOf_29 : decode c_F_restartBehindTheEndOf 29 = .ok (.aload_n 1, 1) := by decide +kernel
theorem d_F_restartBehindTheEndOf_30 : decode c_F_restartBehindTheEndOf 30 = .ok (.if_acmp .ne 19, 3) := by decide +kernel
theorem d_F_restartBehindTheEndOf_33 : decode c_F_restartBehindTheEndOf 33 = .ok (.aload_n 3, 1) := by decide +kernel
theorem d_F_restartBehindTheEndOf_34 : decode c_F_restartBehindTheEndOf 34 = .ok (.getfield 50, 3) := by decide +kernel
theorem d_F_restartBehindTheEndOf_37 : decode c_F_restartBehindTheEndOf 37 = .ok (.aload_n 1, 1) := by decide +kernel
theorem d_F_restartBehindTheEndOf_38 : decode c_F_restartBehindTheEndOf 38 = .ok (.getfield 53, 3) := by decide +kernel
theorem d_F_restartBehindTheEndOf_41 : decode c_F_restartBehindTheEndOf 41 = .ok (.if_icmp .lt 8, 3) := by decide +kernel
theorem d_F_restartBehindTheEndOf_44 : decode c_F_restartBehindTheEndOf 44 = .ok (.aload_n 3, 1) := by decide +kernel
theorem d_F_restartBehindTheEndOf_45 : decode c_F_restartBehindTheEndOf 45 = .ok (.iconst 0, 1) := by decide +kernel
theorem d_F_restartBehindTheEndOf_46 : decode c_F_restartBehindTheEndOf 46 = .ok (.putfield 50, 3) := by decide +kernel
theorem d_F_restartBehindTheEndOf_49 : decode c_F_restartBehindTheEndOf 49 = .ok (.iinc 2 1, 3) := by decide +kernel
theorem d_F_restartBehindTheEndOf_52 : decode c_F_restartBehindTheEndOf 52 = .ok (.goto (-50), 3) := by decide +kernel
theorem d_F_restartBehindTheEndOf_55 : decode c_F_restartBehindTheEndOf 55 = .ok (.return_, 1) := by decide +kernel
theorem d_F_startLike_0 : decode c_F_startLike 0 = .ok (.aload_n 0, 1) := by decide +kernel
theorem d_F_startLike_1 : decode c_F_startLike 1 = .ok (.aload_n 1, 1) := by decide +kernel
theorem d_F_startLike_2 : decode c_F_startLike 2 = .ok (.getfield 58, 3) := by decide +kernel
theorem d_F_startLike_5 : decode c_F_startLike 5 = .ok (.putfield 58, 3) := by decide +kernel
theorem d_F_startLike_8 : decode c_F_startLike 8 = .ok (.aload_n 0, 1) := by decide +kernel
theorem d_F_startLike_9 : decode c_F_startLike 9 = .ok (.getfield 12, 3) := by decide +kernel
theorem d_F_startLike_12 : decode c_F_startLike 12 = .ok (.invokevirtual 21, 3) := by decide +kernel
theorem d_F_startLike_15 : decode c_F_startLike 15 = .ok (.istore_n 2, 1) := by decide +kernel
theorem d_F_startLike_16 : decode c_F_startLike 16 = .ok (.iload_n 2, 1) := by decide +kernel
theorem d_F_startLike_17 : decode c_F_startLike 17 = .ok (.aload_n 1, 1) := by decide +kernel
theorem d_F_startLike_18 : decode c_F_startLike 18 = .ok (.getfield 12, 3) := by decide +kernel
theorem d_F_startLike_21 : decode c_F_startLike 21 = .ok (.invokevirtual 21, 3) := by decide +kernel
theorem d_F_startLike_24 : decode c_F_startLike 24 = .ok (.if_icmp .ge 39, 3) := by decide +kernel
theorem d_F_startLike_27 : decode c_F_startLike 27 = .ok (.aload_n 0, 1) := by decide +kernel
theorem d_F_startLike_28 : decode c_F_startLike 28 = .ok (.getfield 12, 3) := by decide +kernel
theorem d_F_startLike_31 : decode c_F_startLike 31 = .ok (.new 29, 3) := by decide +kernel
theorem d_F_startLike_34 : decode c_F_startLike 34 = .ok (.dup, 1) := by decide +kernel
theorem d_F_startLike_35 : decode c_F_startLike 35 = .ok (.iload_n 2, 1) := by decide +kernel
theorem d_F_startLike_36 : decode c_F_startLike 36 = .ok (.aload_n 1, 1) := by decide +kernel
theorem d_F_startLike_37 : decode c_F_startLike 37 = .ok (.getfield 12, 3) := by decide +kernel
theorem d_F_startLike_40 : decode c_F_startLike 40 = .ok (.iload_n 2, 1) := by decide +kernel
theorem d_F_startLike_41 : decode c_F_startLike 41 = .ok (.invokevirtual 25, 3) := by decide +kernel
theorem d_F_startLike_44 : decode c_F_startLike 44 = .ok (.checkcast 29, 3) := by decide +kernel
theorem d_F_startLike_47 : decode c_F_startLike 47 = .ok (.getfield 46, 3) := by decide +kernel
theorem d_F_startLike_50 : decode c_F_startLike 50 = .ok (.invokespecial 61, 3) := by decide +kernel
theorem d_F_startLike_53 : decode c_F_startLike 53 = .ok (.invokevirtual 64, 3) := by decide +kernel
theorem d_F_startLike_56 : decode c_F_startLike 56 = .ok (.pop, 1) := by decide +kernel
theorem d_F_startLike_57 : decode c_F_startLike 57 = .ok (.iinc 2 1, 3) := by decide +kernel
theorem d_F_startLike_60 : decode c_F_startLike 60 = .ok (.goto (-44), 3) := by decide +kernel
theorem d_F_startLike_63 : decode c_F_startLike 63 = .ok (.iconst 0, 1) := by decide +kernel
theorem d_F_startLike_64 : decode c_F_startLike 64 = .ok (.istore_n 2, 1) := by decide +kernel
theorem d_F_startLike_65 : decode c_F_startLike 65 = .ok (.iload_n 2, 1) := by decide +kernel
theorem d_F_startLike_66 : decode c_F_startLike 66 = .ok (.aload_n 0, 1) := by decide +kernel
theorem d_F_startLike_67 : decode c_F_startLike 67 = .ok (.getfield 12, 3) := by decide +kernel
theorem d_F_startLike_70 : decode c_F_startLike 70 = .ok (.invokevirtual 21, 3) := by decide +kernel
theorem d_F_startLike_73 : decode c_F_startLike 73 = .ok (.if_icmp .ge 83, 3) := by decide +kernel
theorem d_F_startLike_76 : decode c_F_startLike 76 = .ok (.iload_n 2, 1) := by decide +kernel
theorem d_F_startLike_77 : decode c_F_startLike 77 = .ok (.aload_n 1, 1) := by decide +kernel
theorem d_F_startLike_78 : decode c_F_startLike 78 = .ok (.getfield 12, 3) := by decide +kernel
theorem d_F_startLike_81 : decode c_F_startLike 81 = .ok (.invokevirtual 21, 3) := by decide +kernel
theorem d_F_startLike_84 : decode c_F_startLike 84 = .ok (.if_icmp .ge 72, 3) := by decide +kernel
theorem d_F_startLike_87 : decode c_F_startLike 87 = .ok (.aload_n 1, 1) := by decide +kernel
theorem d_F_startLike_88 : decode c_F_startLike 88 = .ok (.getfield 12, 3) := by decide +kernel
theorem d_F_startLike_91 : decode c_F_startLike 91 = .ok (.iload_n 2, 1) := by decide +kernel
theorem d_F_startLike_92 : decode c_F_startLike 92 = .ok (.invokevirtual 25, 3) := by decide +kernel
theorem d_F_startLike_95 : decode c_F_startLike 95 = .ok (.checkcast 29, 3) := by decide +kernel
theorem d_F_startLike_98 : decode c_F_startLike 98 = .ok (.astore_n 3, 1) := by decide +kernel
theorem d_F_startLike_99 : decode c_F_startLike 99 = .ok (.aload_n 0, 1) := by decide +kernel
theorem d_F_startLike_100 : decode c_F_startLike 100 = .ok (.getfield 12, 3) := by decide +kernel
theorem d_F_startLike_103 : decode c_F_startLike 103 = .ok (.iload_n 2, 1) := by decide +kernel
theorem d_F_startLike_104 : decode c_F_startLike 104 = .ok (.invokevirtual 25, 3) := by decide +kernel
theorem d_F_startLike_107 : decode c_F_startLike 107 = .ok (.checkcast 29, 3) := by decide +kernel
theorem d_F_startLike_110 : decode c_F_startLike 110 = .ok (.aload_n 3, 1) := by decide +kernel
theorem d_F_startLike_111 : decode c_F_startLike 111 = .ok (.invokevirtual 68, 3) := by decide +kernel
theorem d_F_startLike_114 : decode c_F_startLike 114 = .ok (.aload_n 0, 1) := by decide +kernel
theorem d_F_startLike_115 : decode c_F_startLike 115 = .ok (.getfield 12, 3) := by decide +kernel
theorem d_F_startLike_118 : decode c_F_startLike 118 = .ok (.iload_n 2, 1) := by decide +kernel
theorem d_F_startLike_119 : decode c_F_startLike 119 = .ok (.invokevirtual 25, 3) := by decide +kernel
theorem d_F_startLike_122 : decode c_F_startLike 122 = .ok (.checkcast 29, 3) := by decide +kernel
theorem d_F_startLike_125 : decode c_F_startLike 125 = .ok (.aload_n 3, 1) := by decide +kernel
theorem d_F_startLike_126 : decode c_F_startLike 126 = .ok (.getfield 72, 3) := by decide +kernel
theorem d_F_startLike_129 : decode c_F_startLike 129 = .ok (.ifnonnull 7, 3) := by decide +kernel
theorem d_F_startLike_132 : decode c_F_startLike 132 = .ok (.aconst_null, 1) := by decide +kernel
theorem d_F_startLike_133 : decode c_F_startLike 133 = .ok (.goto 14, 3) := by decide +kernel
theorem d_F_startLike_136 : decode c_F_startLike 136 = .ok (.aload_n 0, 1) := by decide +kernel
theorem d_F_startLike_137 : decode c_F_startLike 137 = .ok (.aload_n 3, 1) := by decide +kernel
theorem d_F_startLike_138 : decode c_F_startLike 138 = .ok (.getfield 72, 3) := by decide +kernel
theorem d_F_startLike_141 : decode c_F_startLike 141 = .ok (.getfield 76, 3) := by decide +kernel
theorem d_F_startLike_144 : decode c_F_startLike 144 = .ok (.invokevirtual 38, 3) := by decide +kernel
theorem d_F_startLike_147 : decode c_F_startLike 147 = .ok (.putfield 72, 3) := by decide +kernel
theorem d_F_startLike_150 : decode c_F_startLike 150 = .ok (.iinc 2 1, 3) := by decide +kernel
theorem d_F_startLike_153 : decode c_F_startLike 153 = .ok (.goto (-88), 3) := by decide +kernel
theorem d_F_startLike_156 : decode c_F_startLike 156 = .ok (.aload_n 0, 1) := by decide +kernel
theorem d_F_startLike_157 : decode c_F_startLike 157 = .ok (.getfield 18, 3) := by decide +kernel
theorem d_F_startLike_160 : decode c_F_startLike 160 = .ok (.invokevirtual 21, 3) := by decide +kernel
theorem d_F_startLike_163 : decode c_F_startLike 163 = .ok (.istore_n 2, 1) := by decide +kernel
theorem d_F_startLike_164 : decode c_F_startLike 164 = .ok (.iload_n 2, 1) := by decide +kernel
theorem d_F_startLike_165 : decode c_F_startLike 165 = .ok (.aload_n 1, 1) := by decide +kernel
theorem d_F_startLike_166 : decode c_F_startLike 166 = .ok (.getfield 18, 3) := by decide +kernel
theorem d_F_startLike_169 : decode c_F_startLike 169 = .ok (.invokevirtual 21, 3) := by decide +kernel
theorem d_F_startLike_172 : decode c_F_startLike 172 = .ok (.if_icmp .ge 24, 3) := by decide +kernel
theorem d_F_startLike_175 : decode c_F_startLike 175 = .ok (.aload_n 0, 1) := by decide +kernel
theorem d_F_startLike_176 : decode c_F_startLike 176 = .ok (.getfield 18, 3) := by decide +kernel
theorem d_F_startLike_179 : decode c_F_startLike 179 = .ok (.new 79, 3) := by decide +kernel
theorem d_F_startLike_182 : decode c_F_startLike 182 = .ok (.dup, 1) := by decide +kernel
theorem d_F_startLike_183 : decode c_F_startLike 183 = .ok (.invokespecial 81, 3) := by decide +kernel
theorem d_F_startLike_186 : decode c_F_startLike 186 = .ok (.invokevirtual 64, 3) := by decide +kernel
theorem d_F_startLike_189 : decode c_F_startLike 189 = .ok (.pop, 1) := by decide +kernel
theorem d_F_startLike_190 : decode c_F_startLike 190 = .ok (.iinc 2 1, 3) := by decide +kernel
theorem d_F_startLike_193 : decode c_F_startLike 193 = .ok (.goto (-29), 3) := by decide +kernel
theorem d_F_startLike_196 : decode c_F_startLike 196 = .ok (.iconst 0, 1) := by decide +kernel
theorem d_F_startLike_197 : decode c_F_startLike 197 = .ok (.istore_n 2, 1) := by decide +kernel
theorem d_F_startLike_198 : decode c_F_startLike 198 = .ok (.iload_n 2, 1) := by decide +kernel
theorem d_F_startLike_199 : decode c_F_startLike 199 = .ok (.aload_n 0, 1) := by decide +kernel
theorem d_F_startLike_200 : decode c_F_startLike 200 = .ok (.getfield 18, 3) := by decide +kernel
theorem d_F_startLike_203 : decode c_F_startLike 203 = .ok (.invokevirtual 21, 3) := by decide +kernel
theorem d_F_startLike_206 : decode c_F_startLike 206 = .ok (.if_icmp .ge 45, 3) := by decide +kernel
theorem d_F_startLike_209 : decode c_F_startLike 209 = .ok (.iload_n 2, 1) := by decide +kernel
theorem d_F_startLike_210 : decode c_F_startLike 210 = .ok (.aload_n 1, 1) := by decide +kernel
theorem d_F_startLike_211 : decode c_F_startLike 211 = .ok (.getfield 18, 3) := by decide +kernel
theorem d_F_startLike_214 : decode c_F_startLike 214 = .ok (.invokevirtual 21, 3) := by decide +kernel
theorem d_F_startLike_217 : decode c_F_startLike 217 = .ok (.if_icmp .ge 34, 3) := by decide +kernel
theorem d_F_startLike_220 : decode c_F_startLike 220 = .ok (.aload_n 0, 1) := by decide +kernel
theorem d_F_startLike_221 : decode c_F_startLike 221 = .ok (.getfield 18, 3) := by decide +kernel
theorem d_F_startLike_224 : decode c_F_startLike 224 = .ok (.iload_n 2, 1) := by decide +kernel
theorem d_F_startLike_225 : decode c_F_startLike 225 = .ok (.invokevirtual 25, 3) := by decide +kernel
theorem d_F_startLike_228 : decode c_F_startLike 228 = .ok (.checkcast 79, 3) := by decide +kernel
theorem d_F_startLike_231 : decode c_F_startLike 231 = .ok (.aload_n 1, 1) := by decide +kernel
theorem d_F_startLike_232 : decode c_F_startLike 232 = .ok (.getfield 18, 3) := by decide +kernel
theorem d_F_startLike_235 : decode c_F_startLike 235 = .ok (.iload_n 2, 1) := by decide +kernel
theorem d_F_startLike_236 : decode c_F_startLike 236 = .ok (.invokevirtual 25, 3) := by decide +kernel
theorem d_F_startLike_239 : decode c_F_startLike 239 = .ok (.checkcast 79, 3) := by decide +kernel
theorem d_F_startLike_242 : decode c_F_startLike 242 = .ok (.invokevirtual 82, 3) := by decide +kernel
theorem d_F_startLike_245 : decode c_F_startLike 245 = .ok (.iinc 2 1, 3) := by decide +kernel
theorem d_F_startLike_248 : decode c_F_startLike 248 = .ok (.goto (-50), 3) := by decide +kernel
theorem d_F_startLike_251 : decode c_F_startLike 251 = .ok (.return_, 1) := by decide +kernel
theorem d_F_playBeat_0 : decode c_F_playBeat 0 = .ok (.iconst 0, 1) := by decide +kernel
theorem d_F_playBeat_1 : decode c_F_playBeat 1 = .ok (.istore_n 1, 1) := by decide +kernel
theorem d_F_playBeat_2 : decode c_F_playBeat 2 = .ok (.iconst 0, 1) := by decide +kernel
theorem d_F_playBeat_3 : decode c_F_playBeat 3 = .ok (.istore_n 2, 1) := by decide +kernel
theorem d_F_playBeat_4 : decode c_F_playBeat 4 = .ok (.iload_n 2, 1) := by decide +kernel
theorem d_F_playBeat_5 : decode c_F_playBeat 5 = .ok (.aload_n 0, 1) := by decide +kernel
theorem d_F_playBeat_6 : decode c_F_playBeat 6 = .ok (.getfield 12, 3) := by decide +kernel
theorem d_F_playBeat_9 : decode c_F_playBeat 9 = .ok (.invokevirtual 21, 3) := by decide +kernel
theorem d_F_playBeat_12 : decode c_F_playBeat 12 = .ok (.if_icmp .ge 43, 3) := by decide +kernel
theorem d_F_playBeat_15 : decode c_F_playBeat 15 = .ok (.aload_n 0, 1) := by decide +kernel
theorem d_F_playBeat_16 : decode c_F_playBeat 16 = .ok (.getfield 12, 3) := by decide +kernel
theorem d_F_playBeat_19 : decode c_F_playBeat 19 = .ok (.iload_n 2, 1) := by decide +kernel
theorem d_F_playBeat_20 : decode c_F_playBeat 20 = .ok (.invokevirtual 25, 3) := by decide +kernel
theorem d_F_playBeat_23 : decode c_F_playBeat 23 = .ok (.checkcast 29, 3) := by decide +kernel
theorem d_F_playBeat_26 : decode c_F_playBeat 26 = .ok (.astore_n 3, 1) := by decide +kernel
theorem d_F_playBeat_27 : decode c_F_playBeat 27 = .ok (.aload_n 3, 1) := by decide +kernel
theorem d_F_playBeat_28 : decode c_F_playBeat 28 = .ok (.getfield 85, 3) := by decide +kernel
theorem d_F_playBeat_31 : decode c_F_playBeat 31 = .ok (.ifCond .ne 18, 3) := by decide +kernel
theorem d_F_playBeat_34 : decode c_F_playBeat 34 = .ok (.aload_n 3, 1) := by decide +kernel
theorem d_F_playBeat_35 : decode c_F_playBeat 35 = .ok (.invokestatic 89, 3) := by decide +kernel
theorem d_F_playBeat_38 : decode c_F_playBeat 38 = .ok (.ifCond .eq 11, 3) := by decide +kernel
theorem d_F_playBeat_41 : decode c_F_playBeat 41 = .ok (.iload_n 1, 1) := by decide +kernel
theorem d_F_playBeat_42 : decode c_F_playBeat 42 = .ok (.aload_n 0, 1) := by decide +kernel
theorem d_F_playBeat_43 : decode c_F_playBeat 43 = .ok (.aload_n 3, 1) := by decide +kernel
theorem d_F_playBeat_44 : decode c_F_playBeat 44 = .ok (.invokevirtual 92, 3) := by decide +kernel
theorem d_F_playBeat_47 : decode c_F_playBeat 47 = .ok (.iadd, 1) := by decide +kernel
theorem d_F_playBeat_48 : decode c_F_playBeat 48 = .ok (.istore_n 1, 1) := by decide +kernel
theorem d_F_playBeat_49 : decode c_F_playBeat 49 = .ok (.iinc 2 1, 3) := by decide +kernel
theorem d_F_playBeat_52 : decode c_F_playBeat 52 = .ok (.goto (-48), 3) := by decide +kernel
theorem d_F_playBeat_55 : decode c_F_playBeat 55 = .ok (.iconst 0, 1) := by decide +kernel
theorem d_F_playBeat_56 : decode c_F_playBeat 56 = .ok (.istore_n 2, 1) := by decide +kernel
theorem d_F_playBeat_57 : decode c_F_playBeat 57 = .ok (.iload_n 2, 1) := by decide +kernel
theorem d_F_playBeat_58 : decode c_F_playBeat 58 = .ok (.aload_n 0, 1) := by decide +kernel
theorem d_F_playBeat_59 : decode c_F_playBeat 59 = .ok (.getfield 18, 3) := by decide +kernel
theorem d_F_playBeat_62 : decode c_F_playBeat 62 = .ok (.invokevirtual 21, 3) := by decide +kernel
theorem d_F_playBeat_65 : decode c_F_playBeat 65 = .ok (.if_icmp .ge 47, 3) := by decide +kernel
theorem d_F_playBeat_68 : decode c_F_playBeat 68 = .ok (.aload_n 0, 1) := by decide +kernel
theorem d_F_playBeat_69 : decode c_F_playBeat 69 = .ok (.aload_n 0, 1) := by decide +kernel
theorem d_F_playBeat_70 : decode c_F_playBeat 70 = .ok (.getfield 18, 3) := by decide +kernel
theorem d_F_playBeat_73 : decode c_F_playBeat 73 = .ok (.iload_n 2, 1) := by decide +kernel
theorem d_F_playBeat_74 : decode c_F_playBeat 74 = .ok (.invokevirtual 25, 3) := by decide +kernel
theorem d_F_playBeat_77 : decode c_F_playBeat 77 = .ok (.checkcast 79, 3) := by decide +kernel
theorem d_F_playBeat_80 : decode c_F_playBeat 80 = .ok (.invokevirtual 96, 3) := by decide +kernel
theorem d_F_playBeat_83 : decode c_F_playBeat 83 = .ok (.invokevirtual 38, 3) := by decide +kernel
theorem d_F_playBeat_86 : decode c_F_playBeat 86 = .ok (.astore_n 3, 1) := by decide +kernel
theorem d_F_playBeat_87 : decode c_F_playBeat 87 = .ok (.aload_n 3, 1) := by decide +kernel
theorem d_F_playBeat_88 : decode c_F_playBeat 88 = .ok (.ifnull 18, 3) := by decide +kernel
theorem d_F_playBeat_91 : decode c_F_playBeat 91 = .ok (.aload_n 0, 1) := by decide +kernel
theorem d_F_playBeat_92 : decode c_F_playBeat 92 = .ok (.getfield 18, 3) := by decide +kernel
theorem d_F_playBeat_95 : decode c_F_playBeat 95 = .ok (.iload_n 2, 1) := by decide +kernel
theorem d_F_playBeat_96 : decode c_F_playBeat 96 = .ok (.invokevirtual 25, 3) := by decide +kernel
theorem d_F_playBeat_99 : decode c_F_playBeat 99 = .ok (.checkcast 79, 3) := by decide +kernel
theorem d_F_playBeat_102 : decode c_F_playBeat 102 = .ok (.aload_n 3, 1) := by decide +kernel
theorem d_F_playBeat_103 : decode c_F_playBeat 103 = .ok (.invokevirtual 99, 3) := by decide +kernel
theorem d_F_playBeat_106 : decode c_F_playBeat 106 = .ok (.iinc 2 1, 3) := by decide +kernel
theorem d_F_playBeat_109 : decode c_F_playBeat 109 = .ok (.goto (-52), 3) := by decide +kernel
theorem d_F_playBeat_112 : decode c_F_playBeat 112 = .ok (.iconst 0, 1) := by decide +kernel
theorem d_F_playBeat_113 : decode c_F_playBeat 113 = .ok (.istore_n 2, 1) := by decide +kernel
theorem d_F_playBeat_114 : decode c_F_playBeat 114 = .ok (.iload_n 2, 1) := by decide +kernel
theorem d_F_playBeat_115 : decode c_F_playBeat 115 = .ok (.aload_n 0, 1) := by decide +kernel
theorem d_F_playBeat_116 : decode c_F_playBeat 116 = .ok (.getfield 12, 3) := by decide +kernel
theorem d_F_playBeat_119 : decode c_F_playBeat 119 = .ok (.invokevirtual 21, 3) := by decide +kernel
theorem d_F_playBeat_122 : decode c_F_playBeat 122 = .ok (.if_icmp .ge 35, 3) := by decide +kernel
theorem d_F_playBeat_125 : decode c_F_playBeat 125 = .ok (.aload_n 0, 1) := by decide +kernel
theorem d_F_playBeat_126 : decode c_F_playBeat 126 = .ok (.getfield 12, 3) := by decide +kernel
theorem d_F_playBeat_129 : decode c_F_playBeat 129 = .ok (.iload_n 2, 1) := by decide +kernel
theorem d_F_playBeat_130 : decode c_F_playBeat 130 = .ok (.invokevirtual 25, 3) := by decide +kernel
theorem d_F_playBeat_133 : decode c_F_playBeat 133 = .ok (.checkcast 29, 3) := by decide +kernel
theorem d_F_playBeat_136 : decode c_F_playBeat 136 = .ok (.astore_n 3, 1) := by decide +kernel
theorem d_F_playBeat_137 : decode c_F_playBeat 137 = .ok (.aload_n 3, 1) := by decide +kernel
theorem d_F_playBeat_138 : decode c_F_playBeat 138 = .ok (.iconst 0, 1) := by decide +kernel
theorem d_F_playBeat_139 : decode c_F_playBeat 139 = .ok (.aload_n 3, 1) := by decide +kernel
theorem d_F_playBeat_140 : decode c_F_playBeat 140 = .ok (.getfield 102, 3) := by decide +kernel
theorem d_F_playBeat_143 : decode c_F_playBeat 143 = .ok (.iconst 1, 1) := by decide +kernel
theorem d_F_playBeat_144 : decode c_F_playBeat 144 = .ok (.isub, 1) := by decide +kernel
theorem d_F_playBeat_145 : decode c_F_playBeat 145 = .ok (.invokestatic 105, 3) := by decide +kernel
theorem d_F_playBeat_148 : decode c_F_playBeat 148 = .ok (.putfield 102, 3) := by decide +kernel
theorem d_F_playBeat_151 : decode c_F_playBeat 151 = .ok (.iinc 2 1, 3) := by decide +kernel
theorem d_F_playBeat_154 : decode c_F_playBeat 154 = .ok (.goto (-40), 3) := by decide +kernel
theorem d_F_playBeat_157 : decode c_F_playBeat 157 = .ok (.aload_n 0, 1) := by decide +kernel
theorem d_F_playBeat_158 : decode c_F_playBeat 158 = .ok (.dup, 1) := by decide +kernel
theorem d_F_playBeat_159 : decode c_F_playBeat 159 = .ok (.getfield 58, 3) := by decide +kernel
theorem d_F_playBeat_162 : decode c_F_playBeat 162 = .ok (.iconst 1, 1) := by decide +kernel
theorem d_F_playBeat_163 : decode c_F_playBeat 163 = .ok (.iadd, 1) := by decide +kernel
theorem d_F_playBeat_164 : decode c_F_playBeat 164 = .ok (.putfield 58, 3) := by decide +kernel
theorem d_F_playBeat_167 : decode c_F_playBeat 167 = .ok (.iload_n 1, 1) := by decide +kernel
theorem d_F_playBeat_168 : decode c_F_playBeat 168 = .ok (.ireturn, 1) := by decide +kernel
theorem d_F_mayPerform_0 : decode c_F_mayPerform 0 = .ok (.aload_n 0, 1) := by decide +kernel
theorem d_F_mayPerform_1 : decode c_F_mayPerform 1 = .ok (.invokevirtual 111, 3) := by decide +kernel
theorem d_F_mayPerform_4 : decode c_F_mayPerform 4 = .ok (.ifCond .eq 24, 3) := by decide +kernel
theorem d_F_mayPerform_7 : decode c_F_mayPerform 7 = .ok (.aload_n 0, 1) := by decide +kernel
theorem d_F_mayPerform_8 : decode c_F_mayPerform 8 = .ok (.getfield 72, 3) := by decide +kernel
theorem d_F_mayPerform_11 : decode c_F_mayPerform 11 = .ok (.ifnull 13, 3) := by decide +kernel
theorem d_F_mayPerform_14 : decode c_F_mayPerform 14 = .ok (.aload_n 0, 1) := by decide +kernel
theorem d_F_mayPerform_15 : decode c_F_mayPerform 15 = .ok (.getfield 72, 3) := by decide +kernel
theorem d_F_mayPerform_18 : decode c_F_mayPerform 18 = .ok (.invokevirtual 111, 3) := by decide +kernel
theorem d_F_mayPerform_21 : decode c_F_mayPerform 21 = .ok (.ifCond .eq 7, 3) := by decide +kernel
theorem d_F_mayPerform_24 : decode c_F_mayPerform 24 = .ok (.iconst 1, 1) := by decide +kernel
theorem d_F_mayPerform_25 : decode c_F_mayPerform 25 = .ok (.goto 4, 3) := by decide +kernel
theorem d_F_mayPerform_28 : decode c_F_mayPerform 28 = .ok (.iconst 0, 1) := by decide +kernel
theorem d_F_mayPerform_29 : decode c_F_mayPerform 29 = .ok (.ireturn, 1) := by decide +kernel
theorem d_F_perform_0 : decode c_F_perform 0 = .ok (.aload_n 1, 1) := by decide +kernel
theorem d_F_perform_1 : decode c_F_perform 1 = .ok (.getfield 72, 3) := by decide +kernel
theorem d_F_perform_4 : decode c_F_perform 4 = .ok (.astore_n 2, 1) := by decide +kernel
theorem d_F_perform_5 : decode c_F_perform 5 = .ok (.aload_n 1, 1) := by decide +kernel
theorem d_F_perform_6 : decode c_F_perform 6 = .ok (.getfield 46, 3) := by decide +kernel
theorem d_F_perform_9 : decode c_F_perform 9 = .ok (.aload_n 1, 1) := by decide +kernel
theorem d_F_perform_10 : decode c_F_perform 10 = .ok (.getfield 50, 3) := by decide +kernel
theorem d_F_perform_13 : decode c_F_perform 13 = .ok (.invokevirtual 115, 3) := by decide +kernel
theorem d_F_perform_16 : decode c_F_perform 16 = .ok (.istore_n 3, 1) := by decide +kernel
theorem d_F_perform_17 : decode c_F_perform 17 = .ok (.aload_n 1, 1) := by decide +kernel
theorem d_F_perform_18 : decode c_F_perform 18 = .ok (.aload_n 1, 1) := by decide +kernel
theorem d_F_perform_19 : decode c_F_perform 19 = .ok (.getfield 46, 3) := by decide +kernel
theorem d_F_perform_22 : decode c_F_perform 22 = .ok (.aload_n 1, 1) := by decide +kernel
theorem d_F_perform_23 : decode c_F_perform 23 = .ok (.getfield 50, 3) := by decide +kernel
theorem d_F_perform_26 : decode c_F_perform 26 = .ok (.invokevirtual 119, 3) := by decide +kernel
theorem d_F_perform_29 : decode c_F_perform 29 = .ok (.putfield 50, 3) := by decide +kernel
theorem d_F_perform_32 : decode c_F_perform 32 = .ok (.aload_n 1, 1) := by decide +kernel
theorem d_F_perform_33 : decode c_F_perform 33 = .ok (.iload_n 3, 1) := by decide +kernel
theorem d_F_perform_34 : decode c_F_perform 34 = .ok (.invokestatic 122, 3) := by decide +kernel
theorem d_F_perform_37 : decode c_F_perform 37 = .ok (.aload_n 0, 1) := by decide +kernel
theorem d_F_perform_38 : decode c_F_perform 38 = .ok (.aload_n 1, 1) := by decide +kernel
theorem d_F_perform_39 : decode c_F_perform 39 = .ok (.invokevirtual 126, 3) := by decide +kernel
theorem d_F_perform_42 : decode c_F_perform 42 = .ok (.astore 4, 2) := by decide +kernel
theorem d_F_perform_44 : decode c_F_perform 44 = .ok (.aload_n 2, 1) := by decide +kernel
theorem d_F_perform_45 : decode c_F_perform 45 = .ok (.ifnonnull 7, 3) := by decide +kernel
theorem d_F_perform_48 : decode c_F_perform 48 = .ok (.aconst_null, 1) := by decide +kernel
theorem d_F_perform_49 : decode c_F_perform 49 = .ok (.goto 8, 3) := by decide +kernel
theorem d_F_perform_52 : decode c_F_perform 52 = .ok (.aload_n 0, 1) := by decide +kernel
theorem d_F_perform_53 : decode c_F_perform 53 = .ok (.aload_n 2, 1) := by decide +kernel
theorem d_F_perform_54 : decode c_F_perform 54 = .ok (.invokevirtual 126, 3) := by decide +kernel
theorem d_F_perform_57 : decode c_F_perform 57 = .ok (.astore 5, 2) := by decide +kernel
theorem d_F_perform_59 : decode c_F_perform 59 = .ok (.aload_n 1, 1) := by decide +kernel
theorem d_F_perform_60 : decode c_F_perform 60 = .ok (.invokevirtual 130, 3) := by decide +kernel
theorem d_F_perform_63 : decode c_F_perform 63 = .ok (.ifCond .ne 14, 3) := by decide +kernel
theorem d_F_perform_66 : decode c_F_perform 66 = .ok (.aload_n 2, 1) := by decide +kernel
theorem d_F_perform_67 : decode c_F_perform 67 = .ok (.ifnull 14, 3) := by decide +kernel
theorem d_F_perform_70 : decode c_F_perform 70 = .ok (.aload_n 2, 1) := by decide +kernel
theorem d_F_perform_71 : decode c_F_perform 71 = .ok (.invokevirtual 130, 3) := by decide +kernel
theorem d_F_perform_74 : decode c_F_perform 74 = .ok (.ifCond .eq 7, 3) := by decide +kernel
theorem d_F_perform_77 : decode c_F_perform 77 = .ok (.iconst 1, 1) := by decide +kernel
theorem d_F_perform_78 : decode c_F_perform 78 = .ok (.goto 4, 3) := by decide +kernel
theorem d_F_perform_81 : decode c_F_perform 81 = .ok (.iconst 0, 1) := by decide +kernel
theorem d_F_perform_82 : decode c_F_perform 82 = .ok (.istore 6, 2) := by decide +kernel
theorem d_F_perform_84 : decode c_F_perform 84 = .ok (.iload 6, 2) := by decide +kernel
theorem d_F_perform_86 : decode c_F_perform 86 = .ok (.ifCond .ne 13, 3) := by decide +kernel
theorem d_F_perform_89 : decode c_F_perform 89 = .ok (.aload 4, 2) := by decide +kernel
theorem d_F_perform_91 : decode c_F_perform 91 = .ok (.ifnonnull 8, 3) := by decide +kernel
theorem d_F_perform_94 : decode c_F_perform 94 = .ok (.aload 5, 2) := by decide +kernel
theorem d_F_perform_96 : decode c_F_perform 96 = .ok (.ifnull 25, 3) := by decide +kernel
theorem d_F_perform_99 : decode c_F_perform 99 = .ok (.aload_n 1, 1) := by decide +kernel
theorem d_F_perform_100 : decode c_F_perform 100 = .ok (.invokestatic 133, 3) := by decide +kernel
theorem d_F_perform_103 : decode c_F_perform 103 = .ok (.aload_n 2, 1) := by decide +kernel
theorem d_F_perform_104 : decode c_F_perform 104 = .ok (.invokestatic 133, 3) := by decide +kernel
theorem d_F_perform_107 : decode c_F_perform 107 = .ok (.iadd, 1) := by decide +kernel
theorem d_F_perform_108 : decode c_F_perform 108 = .ok (.aload 4, 2) := by decide +kernel
theorem d_F_perform_110 : decode c_F_perform 110 = .ok (.invokestatic 133, 3) := by decide +kernel
theorem d_F_perform_113 : decode c_F_perform 113 = .ok (.iadd, 1) := by decide +kernel
theorem d_F_perform_114 : decode c_F_perform 114 = .ok (.aload 5, 2) := by decide +kernel
theorem d_F_perform_116 : decode c_F_perform 116 = .ok (.invokestatic 133, 3) := by decide +kernel
theorem d_F_perform_119 : decode c_F_perform 119 = .ok (.iadd, 1) := by decide +kernel
theorem d_F_perform_120 : decode c_F_perform 120 = .ok (.ireturn, 1) := by decide +kernel
theorem d_F_perform_121 : decode c_F_perform 121 = .ok (.aload_n 1, 1) := by decide +kernel
theorem d_F_perform_122 : decode c_F_perform 122 = .ok (.iload_n 3, 1) := by decide +kernel
theorem d_F_perform_123 : decode c_F_perform 123 = .ok (.invokestatic 136, 3) := by decide +kernel
theorem d_F_perform_126 : decode c_F_perform 126 = .ok (.invokevirtual 139, 3) := by decide +kernel
theorem d_F_perform_129 : decode c_F_perform 129 = .ok (.aload_n 2, 1) := by decide +kernel
theorem d_F_perform_130 : decode c_F_perform 130 = .ok (.ifnull 11, 3) := by decide +kernel
theorem d_F_perform_133 : decode c_F_perform 133 = .ok (.aload_n 2, 1) := by decide +kernel
theorem d_F_perform_134 : decode c_F_perform 134 = .ok (.iload_n 3, 1) := by decide +kernel
theorem d_F_perform_135 : decode c_F_perform 135 = .ok (.invokestatic 136, 3) := by decide +kernel
theorem d_F_perform_138 : decode c_F_perform 138 = .ok (.invokevirtual 139, 3) := by decide +kernel
theorem d_F_perform_141 : decode c_F_perform 141 = .ok (.iconst 0, 1) := by decide +kernel
theorem d_F_perform_142 : decode c_F_perform 142 = .ok (.ireturn, 1) := by decide +kernel
theorem d_F_aim_0 : decode c_F_aim 0 = .ok (.aload_n 0, 1) := by decide +kernel
theorem d_F_aim_1 : decode c_F_aim 1 = .ok (.getfield 72, 3) := by decide +kernel
theorem d_F_aim_4 : decode c_F_aim 4 = .ok (.astore_n 2, 1) := by decide +kernel
theorem d_F_aim_5 : decode c_F_aim 5 = .ok (.aload_n 0, 1) := by decide +kernel
theorem d_F_aim_6 : decode c_F_aim 6 = .ok (.aload_n 0, 1) := by decide +kernel
theorem d_F_aim_7 : decode c_F_aim 7 = .ok (.getfield 31, 3) := by decide +kernel
theorem d_F_aim_10 : decode c_F_aim 10 = .ok (.aload_n 0, 1) := by decide +kernel
theorem d_F_aim_11 : decode c_F_aim 11 = .ok (.getfield 35, 3) := by decide +kernel
theorem d_F_aim_14 : decode c_F_aim 14 = .ok (.invokevirtual 143, 3) := by decide +kernel
theorem d_F_aim_17 : decode c_F_aim 17 = .ok (.iload_n 1, 1) := by decide +kernel
theorem d_F_aim_18 : decode c_F_aim 18 = .ok (.invokestatic 147, 3) := by decide +kernel
theorem d_F_aim_21 : decode c_F_aim 21 = .ok (.ifCond .eq 26, 3) := by decide +kernel
theorem d_F_aim_24 : decode c_F_aim 24 = .ok (.aload_n 0, 1) := by decide +kernel
theorem d_F_aim_25 : decode c_F_aim 25 = .ok (.aload_n 0, 1) := by decide +kernel
theorem d_F_aim_26 : decode c_F_aim 26 = .ok (.getfield 31, 3) := by decide +kernel
theorem d_F_aim_29 : decode c_F_aim 29 = .ok (.aload_n 0, 1) := by decide +kernel
theorem d_F_aim_30 : decode c_F_aim 30 = .ok (.getfield 35, 3) := by decide +kernel
theorem d_F_aim_33 : decode c_F_aim 33 = .ok (.aload_n 0, 1) := by decide +kernel
theorem d_F_aim_34 : decode c_F_aim 34 = .ok (.getfield 151, 3) := by decide +kernel
theorem d_F_aim_37 : decode c_F_aim 37 = .ok (.iload_n 1, 1) := by decide +kernel
theorem d_F_aim_38 : decode c_F_aim 38 = .ok (.invokestatic 154, 3) := by decide +kernel
theorem d_F_aim_41 : decode c_F_aim 41 = .ok (.invokestatic 157, 3) := by decide +kernel
theorem d_F_aim_44 : decode c_F_aim 44 = .ok (.invokevirtual 160, 3) := by decide +kernel
theorem d_F_aim_47 : decode c_F_aim 47 = .ok (.aload_n 2, 1) := by decide +kernel
theorem d_F_aim_48 : decode c_F_aim 48 = .ok (.ifnonnull 4, 3) := by decide +kernel
theorem d_F_aim_51 : decode c_F_aim 51 = .ok (.return_, 1) := by decide +kernel
theorem d_F_aim_52 : decode c_F_aim 52 = .ok (.aload_n 2, 1) := by decide +kernel
theorem d_F_aim_53 : decode c_F_aim 53 = .ok (.aload_n 2, 1) := by decide +kernel
theorem d_F_aim_54 : decode c_F_aim 54 = .ok (.getfield 31, 3) := by decide +kernel
theorem d_F_aim_57 : decode c_F_aim 57 = .ok (.aload_n 2, 1) := by decide +kernel
theorem d_F_aim_58 : decode c_F_aim 58 = .ok (.getfield 35, 3) := by decide +kernel
theorem d_F_aim_61 : decode c_F_aim 61 = .ok (.invokevirtual 143, 3) := by decide +kernel
theorem d_F_aim_64 : decode c_F_aim 64 = .ok (.iload_n 1, 1) := by decide +kernel
theorem d_F_aim_65 : decode c_F_aim 65 = .ok (.invokestatic 147, 3) := by decide +kernel
theorem d_F_aim_68 : decode c_F_aim 68 = .ok (.ifCond .eq 29, 3) := by decide +kernel
theorem d_F_aim_71 : decode c_F_aim 71 = .ok (.aload_n 2, 1) := by decide +kernel
theorem d_F_aim_72 : decode c_F_aim 72 = .ok (.aload_n 2, 1) := by decide +kernel
theorem d_F_aim_73 : decode c_F_aim 73 = .ok (.getfield 31, 3) := by decide +kernel
theorem d_F_aim_76 : decode c_F_aim 76 = .ok (.aload_n 2, 1) := by decide +kernel
theorem d_F_aim_77 : decode c_F_aim 77 = .ok (.getfield 35, 3) := by decide +kernel
theorem d_F_aim_80 : decode c_F_aim 80 = .ok (.aload_n 0, 1) := by decide +kernel
theorem d_F_aim_81 : decode c_F_aim 81 = .ok (.getfield 151, 3) := by decide +kernel
theorem d_F_aim_84 : decode c_F_aim 84 = .ok (.iload_n 1, 1) := by decide +kernel
theorem d_F_aim_85 : decode c_F_aim 85 = .ok (.invokestatic 154, 3) := by decide +kernel
theorem d_F_aim_88 : decode c_F_aim 88 = .ok (.invokestatic 157, 3) := by decide +kernel
theorem d_F_aim_91 : decode c_F_aim 91 = .ok (.invokevirtual 160, 3) := by decide +kernel
theorem d_F_aim_94 : decode c_F_aim 94 = .ok (.goto 69, 3) := by decide +kernel
theorem d_F_aim_97 : decode c_F_aim 97 = .ok (.iload_n 1, 1) := by decide +kernel
theorem d_F_aim_98 : decode c_F_aim 98 = .ok (.bipush 115, 2) := by decide +kernel
theorem d_F_aim_100 : decode c_F_aim 100 = .ok (.if_icmp .ne 30, 3) := by decide +kernel
theorem d_F_aim_103 : decode c_F_aim 103 = .ok (.aload_n 0, 1) := by decide +kernel
theorem d_F_aim_104 : decode c_F_aim 104 = .ok (.aload_n 2, 1) := by decide +kernel
theorem d_F_aim_105 : decode c_F_aim 105 = .ok (.getfield 31, 3) := by decide +kernel
theorem d_F_aim_108 : decode c_F_aim 108 = .ok (.aload_n 2, 1) := by decide +kernel
theorem d_F_aim_109 : decode c_F_aim 109 = .ok (.getfield 35, 3) := by decide +kernel
theorem d_F_aim_112 : decode c_F_aim 112 = .ok (.invokevirtual 143, 3) := by decide +kernel
theorem d_F_aim_115 : decode c_F_aim 115 = .ok (.aload_n 2, 1) := by decide +kernel
theorem d_F_aim_116 : decode c_F_aim 116 = .ok (.aload_n 0, 1) := by decide +kernel
theorem d_F_aim_117 : decode c_F_aim 117 = .ok (.getfield 31, 3) := by decide +kernel
theorem d_F_aim_120 : decode c_F_aim 120 = .ok (.aload_n 0, 1) := by decide +kernel
theorem d_F_aim_121 : decode c_F_aim 121 = .ok (.getfield 35, 3) := by decide +kernel
theorem d_F_aim_124 : decode c_F_aim 124 = .ok (.invokevirtual 143, 3) := by decide +kernel
theorem d_F_aim_127 : decode c_F_aim 127 = .ok (.goto 36, 3) := by decide +kernel
theorem d_F_aim_130 : decode c_F_aim 130 = .ok (.iload_n 1, 1) := by decide +kernel
theorem d_F_aim_131 : decode c_F_aim 131 = .ok (.invokestatic 136, 3) := by decide +kernel
theorem d_F_aim_134 : decode c_F_aim 134 = .ok (.ifCond .eq 29, 3) := by decide +kernel
theorem d_F_aim_137 : decode c_F_aim 137 = .ok (.aload_n 0, 1) := by decide +kernel
theorem d_F_aim_138 : decode c_F_aim 138 = .ok (.aload_n 2, 1) := by decide +kernel
theorem d_F_aim_139 : decode c_F_aim 139 = .ok (.invokevirtual 164, 3) := by decide +kernel
theorem d_F_aim_142 : decode c_F_aim 142 = .ok (.iload_n 1, 1) := by decide +kernel
theorem d_F_aim_143 : decode c_F_aim 143 = .ok (.invokestatic 136, 3) := by decide +kernel
theorem d_F_aim_146 : decode c_F_aim 146 = .ok (.invokestatic 157, 3) := by decide +kernel
theorem d_F_aim_149 : decode c_F_aim 149 = .ok (.istore_n 3, 1) := by decide +kernel
theorem d_F_aim_150 : decode c_F_aim 150 = .ok (.aload_n 2, 1) := by decide +kernel
theorem d_F_aim_151 : decode c_F_aim 151 = .ok (.aload_n 0, 1) := by decide +kernel
theorem d_F_aim_152 : decode c_F_aim 152 = .ok (.getfield 31, 3) := by decide +kernel
theorem d_F_aim_155 : decode c_F_aim 155 = .ok (.aload_n 0, 1) := by decide +kernel
theorem d_F_aim_156 : decode c_F_aim 156 = .ok (.getfield 35, 3) := by decide +kernel
theorem d_F_aim_159 : decode c_F_aim 159 = .ok (.iload_n 3, 1) := by decide +kernel
theorem d_F_aim_160 : decode c_F_aim 160 = .ok (.invokevirtual 160, 3) := by decide +kernel
theorem d_F_aim_163 : decode c_F_aim 163 = .ok (.return_, 1) := by decide +kernel
theorem d_F_whoIsInTheWayOf_0 : decode c_F_whoIsInTheWayOf 0 = .ok (.aload_n 0, 1) := by decide +kernel
theorem d_F_whoIsInTheWayOf_1 : decode c_F_whoIsInTheWayOf 1 = .ok (.aload_n 1, 1) := by decide +kernel
theorem d_F_whoIsInTheWayOf_2 : decode c_F_whoIsInTheWayOf 2 = .ok (.getfield 167, 3) := by decide +kernel
theorem d_F_whoIsInTheWayOf_5 : decode c_F_whoIsInTheWayOf 5 = .ok (.aload_n 1, 1) := by decide +kernel
theorem d_F_whoIsInTheWayOf_6 : decode c_F_whoIsInTheWayOf 6 = .ok (.getfield 170, 3) := by decide +kernel
theorem d_F_whoIsInTheWayOf_9 : decode c_F_whoIsInTheWayOf 9 = .ok (.invokevirtual 173, 3) := by decide +kernel
theorem d_F_whoIsInTheWayOf_12 : decode c_F_whoIsInTheWayOf 12 = .ok (.astore_n 2, 1) := by decide +kernel
theorem d_F_whoIsInTheWayOf_13 : decode c_F_whoIsInTheWayOf 13 = .ok (.aload_n 2, 1) := by decide +kernel
theorem d_F_whoIsInTheWayOf_14 : decode c_F_whoIsInTheWayOf 14 = .ok (.aload_n 1, 1) := by decide +kernel
theorem d_F_whoIsInTheWayOf_15 : decode c_F_whoIsInTheWayOf 15 = .ok (.if_acmp .eq 11, 3) := by decide +kernel
theorem d_F_whoIsInTheWayOf_18 : decode c_F_whoIsInTheWayOf 18 = .ok (.aload_n 2, 1) := by decide +kernel
theorem d_F_whoIsInTheWayOf_19 : decode c_F_whoIsInTheWayOf 19 = .ok (.aload_n 1, 1) := by decide +kernel
theorem d_F_whoIsInTheWayOf_20 : decode c_F_whoIsInTheWayOf 20 = .ok (.getfield 72, 3) := by decide +kernel
theorem d_F_whoIsInTheWayOf_23 : decode c_F_whoIsInTheWayOf 23 = .ok (.if_acmp .ne 7, 3) := by decide +kernel
theorem d_F_whoIsInTheWayOf_26 : decode c_F_whoIsInTheWayOf 26 = .ok (.aconst_null, 1) := by decide +kernel
theorem d_F_whoIsInTheWayOf_27 : decode c_F_whoIsInTheWayOf 27 = .ok (.goto 4, 3) := by decide +kernel
theorem d_F_whoIsInTheWayOf_30 : decode c_F_whoIsInTheWayOf 30 = .ok (.aload_n 2, 1) := by decide +kernel
theorem d_F_whoIsInTheWayOf_31 : decode c_F_whoIsInTheWayOf 31 = .ok (.areturn, 1) := by decide +kernel
theorem d_F_bump_0 : decode c_F_bump 0 = .ok (.aload_n 0, 1) := by decide +kernel
theorem d_F_bump_1 : decode c_F_bump 1 = .ok (.ifnonnull 5, 3) := by decide +kernel
theorem d_F_bump_4 : decode c_F_bump 4 = .ok (.iconst 0, 1) := by decide +kernel
theorem d_F_bump_5 : decode c_F_bump 5 = .ok (.ireturn, 1) := by decide +kernel
theorem d_F_bump_6 : decode c_F_bump 6 = .ok (.aload_n 0, 1) := by decide +kernel
theorem d_F_bump_7 : decode c_F_bump 7 = .ok (.invokevirtual 177, 3) := by decide +kernel
theorem d_F_bump_10 : decode c_F_bump 10 = .ok (.iconst 1, 1) := by decide +kernel
theorem d_F_bump_11 : decode c_F_bump 11 = .ok (.ireturn, 1) := by decide +kernel
theorem d_F_firstNewlySpentSince_0 : decode c_F_firstNewlySpentSince 0 = .ok (.iconst 0, 1) := by decide +kernel
theorem d_F_firstNewlySpentSince_1 : decode c_F_firstNewlySpentSince 1 = .ok (.istore_n 2, 1) := by decide +kernel
theorem d_F_firstNewlySpentSince_2 : decode c_F_firstNewlySpentSince 2 = .ok (.iload_n 2, 1) := by decide +kernel
theorem d_F_firstNewlySpentSince_3 : decode c_F_firstNewlySpentSince 3 = .ok (.aload_n 0, 1) := by decide +kernel
theorem d_F_firstNewlySpentSince_4 : decode c_F_firstNewlySpentSince 4 = .ok (.getfield 12, 3) := by decide +kernel
theorem d_F_firstNewlySpentSince_7 : decode c_F_firstNewlySpentSince 7 = .ok (.invokevirtual 21, 3) := by decide +kernel
theorem d_F_firstNewlySpentSince_10 : decode c_F_firstNewlySpentSince 10 = .ok (.if_icmp .ge 56, 3) := by decide +kernel
theorem d_F_firstNewlySpentSince_13 : decode c_F_firstNewlySpentSince 13 = .ok (.iload_n 2, 1) := by decide +kernel
theorem d_F_firstNewlySpentSince_14 : decode c_F_firstNewlySpentSince 14 = .ok (.aload_n 1, 1) := by decide +kernel
theorem d_F_firstNewlySpentSince_15 : decode c_F_firstNewlySpentSince 15 = .ok (.getfield 12, 3) := by decide +kernel
theorem d_F_firstNewlySpentSince_18 : decode c_F_firstNewlySpentSince 18 = .ok (.invokevirtual 21, 3) := by decide +kernel
theorem d_F_firstNewlySpentSince_21 : decode c_F_firstNewlySpentSince 21 = .ok (.if_icmp .ge 45, 3) := by decide +kernel
theorem d_F_firstNewlySpentSince_24 : decode c_F_firstNewlySpentSince 24 = .ok (.aload_n 0, 1) := by decide +kernel
theorem d_F_firstNewlySpentSince_25 : decode c_F_firstNewlySpentSince 25 = .ok (.getfield 12, 3) := by decide +kernel
theorem d_F_firstNewlySpentSince_28 : decode c_F_firstNewlySpentSince 28 = .ok (.iload_n 2, 1) := by decide +kernel
theorem d_F_firstNewlySpentSince_29 : decode c_F_firstNewlySpentSince 29 = .ok (.invokevirtual 25, 3) := by decide +kernel
theorem d_F_firstNewlySpentSince_32 : decode c_F_firstNewlySpentSince 32 = .ok (.checkcast 29, 3) := by decide +kernel
theorem d_F_firstNewlySpentSince_35 : decode c_F_firstNewlySpentSince 35 = .ok (.invokevirtual 180, 3) := by decide +kernel
theorem d_F_firstNewlySpentSince_38 : decode c_F_firstNewlySpentSince 38 = .ok (.ifCond .eq 22, 3) := by decide +kernel
theorem d_F_firstNewlySpentSince_41 : decode c_F_firstNewlySpentSince 41 = .ok (.aload_n 1, 1) := by decide +kernel
theorem d_F_firstNewlySpentSince_42 : decode c_F_firstNewlySpentSince 42 = .ok (.getfield 12, 3) := by decide +kernel
theorem d_F_firstNewlySpentSince_45 : decode c_F_firstNewlySpentSince 45 = .ok (.iload_n 2, 1) := by decide +kernel
theorem d_F_firstNewlySpentSince_46 : decode c_F_firstNewlySpentSince 46 = .ok (.invokevirtual 25, 3) := by decide +kernel
theorem d_F_firstNewlySpentSince_49 : decode c_F_firstNewlySpentSince 49 = .ok (.checkcast 29, 3) := by decide +kernel
theorem d_F_firstNewlySpentSince_52 : decode c_F_firstNewlySpentSince 52 = .ok (.invokevirtual 180, 3) := by decide +kernel
theorem d_F_firstNewlySpentSince_55 : decode c_F_firstNewlySpentSince 55 = .ok (.ifCond .ne 5, 3) := by decide +kernel
theorem d_F_firstNewlySpentSince_58 : decode c_F_firstNewlySpentSince 58 = .ok (.iload_n 2, 1) := by decide +kernel
theorem d_F_firstNewlySpentSince_59 : decode c_F_firstNewlySpentSince 59 = .ok (.ireturn, 1) := by decide +kernel
theorem d_F_firstNewlySpentSince_60 : decode c_F_firstNewlySpentSince 60 = .ok (.iinc 2 1, 3) := by decide +kernel
theorem d_F_firstNewlySpentSince_63 : decode c_F_firstNewlySpentSince 63 = .ok (.goto (-61), 3) := by decide +kernel
theorem d_F_firstNewlySpentSince_66 : decode c_F_firstNewlySpentSince 66 = .ok (.iconst (-1), 1) := by decide +kernel
theorem d_F_firstNewlySpentSince_67 : decode c_F_firstNewlySpentSince 67 = .ok (.ireturn, 1) := by decide +kernel
theorem d_F_sumOfTold_0 : decode c_F_sumOfTold 0 = .ok (.iconst 0, 1) := by decide +kernel
theorem d_F_sumOfTold_1 : decode c_F_sumOfTold 1 = .ok (.istore_n 2, 1) := by decide +kernel
theorem d_F_sumOfTold_2 : decode c_F_sumOfTold 2 = .ok (.iconst 0, 1) := by decide +kernel
theorem d_F_sumOfTold_3 : decode c_F_sumOfTold 3 = .ok (.istore_n 3, 1) := by decide +kernel
theorem d_F_sumOfTold_4 : decode c_F_sumOfTold 4 = .ok (.iload_n 3, 1) := by decide +kernel
theorem d_F_sumOfTold_5 : decode c_F_sumOfTold 5 = .ok (.aload_n 0, 1) := by decide +kernel
theorem d_F_sumOfTold_6 : decode c_F_sumOfTold 6 = .ok (.getfield 12, 3) := by decide +kernel
theorem d_F_sumOfTold_9 : decode c_F_sumOfTold 9 = .ok (.invokevirtual 21, 3) := by decide +kernel
theorem d_F_sumOfTold_12 : decode c_F_sumOfTold 12 = .ok (.if_icmp .ge 27, 3) := by decide +kernel
theorem d_F_sumOfTold_15 : decode c_F_sumOfTold 15 = .ok (.iload_n 2, 1) := by decide +kernel
theorem d_F_sumOfTold_16 : decode c_F_sumOfTold 16 = .ok (.aload_n 0, 1) := by decide +kernel
theorem d_F_sumOfTold_17 : decode c_F_sumOfTold 17 = .ok (.getfield 12, 3) := by decide +kernel
theorem d_F_sumOfTold_20 : decode c_F_sumOfTold 20 = .ok (.iload_n 3, 1) := by decide +kernel
theorem d_F_sumOfTold_21 : decode c_F_sumOfTold 21 = .ok (.invokevirtual 25, 3) := by decide +kernel
theorem d_F_sumOfTold_24 : decode c_F_sumOfTold 24 = .ok (.checkcast 29, 3) := by decide +kernel
theorem d_F_sumOfTold_27 : decode c_F_sumOfTold 27 = .ok (.iload_n 1, 1) := by decide +kernel
theorem d_F_sumOfTold_28 : decode c_F_sumOfTold 28 = .ok (.invokevirtual 183, 3) := by decide +kernel
theorem d_F_sumOfTold_31 : decode c_F_sumOfTold 31 = .ok (.iadd, 1) := by decide +kernel
theorem d_F_sumOfTold_32 : decode c_F_sumOfTold 32 = .ok (.istore_n 2, 1) := by decide +kernel
theorem d_F_sumOfTold_33 : decode c_F_sumOfTold 33 = .ok (.iinc 3 1, 3) := by decide +kernel
theorem d_F_sumOfTold_36 : decode c_F_sumOfTold 36 = .ok (.goto (-32), 3) := by decide +kernel
theorem d_F_sumOfTold_39 : decode c_F_sumOfTold 39 = .ok (.iload_n 2, 1) := by decide +kernel
theorem d_F_sumOfTold_40 : decode c_F_sumOfTold 40 = .ok (.ireturn, 1) := by decide +kernel
theorem d_F_dizzyOnes_0 : decode c_F_dizzyOnes 0 = .ok (.iconst 0, 1) := by decide +kernel
theorem d_F_dizzyOnes_1 : decode c_F_dizzyOnes 1 = .ok (.istore_n 1, 1) := by decide +kernel
theorem d_F_dizzyOnes_2 : decode c_F_dizzyOnes 2 = .ok (.iconst 0, 1) := by decide +kernel
theorem d_F_dizzyOnes_3 : decode c_F_dizzyOnes 3 = .ok (.istore_n 2, 1) := by decide +kernel
theorem d_F_dizzyOnes_4 : decode c_F_dizzyOnes 4 = .ok (.iload_n 2, 1) := by decide +kernel
theorem d_F_dizzyOnes_5 : decode c_F_dizzyOnes 5 = .ok (.aload_n 0, 1) := by decide +kernel
theorem d_F_dizzyOnes_6 : decode c_F_dizzyOnes 6 = .ok (.getfield 12, 3) := by decide +kernel
theorem d_F_dizzyOnes_9 : decode c_F_dizzyOnes 9 = .ok (.invokevirtual 21, 3) := by decide +kernel
theorem d_F_dizzyOnes_12 : decode c_F_dizzyOnes 12 = .ok (.if_icmp .ge 34, 3) := by decide +kernel
theorem d_F_dizzyOnes_15 : decode c_F_dizzyOnes 15 = .ok (.iload_n 1, 1) := by decide +kernel
theorem d_F_dizzyOnes_16 : decode c_F_dizzyOnes 16 = .ok (.aload_n 0, 1) := by decide +kernel
theorem d_F_dizzyOnes_17 : decode c_F_dizzyOnes 17 = .ok (.getfield 12, 3) := by decide +kernel
theorem d_F_dizzyOnes_20 : decode c_F_dizzyOnes 20 = .ok (.iload_n 2, 1) := by decide +kernel
theorem d_F_dizzyOnes_21 : decode c_F_dizzyOnes 21 = .ok (.invokevirtual 25, 3) := by decide +kernel
theorem d_F_dizzyOnes_24 : decode c_F_dizzyOnes 24 = .ok (.checkcast 29, 3) := by decide +kernel
theorem d_F_dizzyOnes_27 : decode c_F_dizzyOnes 27 = .ok (.getfield 102, 3) := by decide +kernel
theorem d_F_dizzyOnes_30 : decode c_F_dizzyOnes 30 = .ok (.ifCond .le 7, 3) := by decide +kernel
theorem d_F_dizzyOnes_33 : decode c_F_dizzyOnes 33 = .ok (.iconst 1, 1) := by decide +kernel
theorem d_F_dizzyOnes_34 : decode c_F_dizzyOnes 34 = .ok (.goto 4, 3) := by decide +kernel
theorem d_F_dizzyOnes_37 : decode c_F_dizzyOnes 37 = .ok (.iconst 0, 1) := by decide +kernel
theorem d_F_dizzyOnes_38 : decode c_F_dizzyOnes 38 = .ok (.iadd, 1) := by decide +kernel
theorem d_F_dizzyOnes_39 : decode c_F_dizzyOnes 39 = .ok (.istore_n 1, 1) := by decide +kernel
theorem d_F_dizzyOnes_40 : decode c_F_dizzyOnes 40 = .ok (.iinc 2 1, 3) := by decide +kernel
theorem d_F_dizzyOnes_43 : decode c_F_dizzyOnes 43 = .ok (.goto (-39), 3) := by decide +kernel
theorem d_F_dizzyOnes_46 : decode c_F_dizzyOnes 46 = .ok (.iload_n 1, 1) := by decide +kernel
theorem d_F_dizzyOnes_47 : decode c_F_dizzyOnes 47 = .ok (.ireturn, 1) := by decide +kernel
theorem d_F_spentOnes_0 : decode c_F_spentOnes 0 = .ok (.iconst 0, 1) := by decide +kernel
theorem d_F_spentOnes_1 : decode c_F_spentOnes 1 = .ok (.istore_n 1, 1) := by decide +kernel
theorem d_F_spentOnes_2 : decode c_F_spentOnes 2 = .ok (.iconst 0, 1) := by decide +kernel
theorem d_F_spentOnes_3 : decode c_F_spentOnes 3 = .ok (.istore_n 2, 1) := by decide +kernel
theorem d_F_spentOnes_4 : decode c_F_spentOnes 4 = .ok (.iload_n 2, 1) := by decide +kernel
theorem d_F_spentOnes_5 : decode c_F_spentOnes 5 = .ok (.aload_n 0, 1) := by decide +kernel
theorem d_F_spentOnes_6 : decode c_F_spentOnes 6 = .ok (.getfield 12, 3) := by decide +kernel
theorem d_F_spentOnes_9 : decode c_F_spentOnes 9 = .ok (.invokevirtual 21, 3) := by decide +kernel
theorem d_F_spentOnes_12 : decode c_F_spentOnes 12 = .ok (.if_icmp .ge 34, 3) := by decide +kernel
theorem d_F_spentOnes_15 : decode c_F_spentOnes 15 = .ok (.iload_n 1, 1) := by decide +kernel
theorem d_F_spentOnes_16 : decode c_F_spentOnes 16 = .ok (.aload_n 0, 1) := by decide +kernel
theorem d_F_spentOnes_17 : decode c_F_spentOnes 17 = .ok (.getfield 12, 3) := by decide +kernel
theorem d_F_spentOnes_20 : decode c_F_spentOnes 20 = .ok (.iload_n 2, 1) := by decide +kernel
theorem d_F_spentOnes_21 : decode c_F_spentOnes 21 = .ok (.invokevirtual 25, 3) := by decide +kernel
theorem d_F_spentOnes_24 : decode c_F_spentOnes 24 = .ok (.checkcast 29, 3) := by decide +kernel
theorem d_F_spentOnes_27 : decode c_F_spentOnes 27 = .ok (.invokevirtual 180, 3) := by decide +kernel
theorem d_F_spentOnes_30 : decode c_F_spentOnes 30 = .ok (.ifCond .eq 7, 3) := by decide +kernel
theorem d_F_spentOnes_33 : decode c_F_spentOnes 33 = .ok (.iconst 1, 1) := by decide +kernel
theorem d_F_spentOnes_34 : decode c_F_spentOnes 34 = .ok (.goto 4, 3) := by decide +kernel
theorem d_F_spentOnes_37 : decode c_F_spentOnes 37 = .ok (.iconst 0, 1) := by decide +kernel
theorem d_F_spentOnes_38 : decode c_F_spentOnes 38 = .ok (.iadd, 1) := by decide +kernel
theorem d_F_spentOnes_39 : decode c_F_spentOnes 39 = .ok (.istore_n 1, 1) := by decide +kernel
theorem d_F_spentOnes_40 : decode c_F_spentOnes 40 = .ok (.iinc 2 1, 3) := by decide +kernel
theorem d_F_spentOnes_43 : decode c_F_spentOnes 43 = .ok (.goto (-39), 3) := by decide +kernel
theorem d_F_spentOnes_46 : decode c_F_spentOnes 46 = .ok (.iload_n 1, 1) := by decide +kernel
theorem d_F_spentOnes_47 : decode c_F_spentOnes 47 = .ok (.ireturn, 1) := by decide +kernel
theorem d_F_countOf_0 : decode c_F_countOf 0 = .ok (.iload_n 1, 1) := by decide +kernel
theorem d_F_countOf_1 : decode c_F_countOf 1 = .ok (.tableswitch 100 0 7 #[47, 52, 60, 67, 75, 80, 86, 93], 47) := by decide +kernel
theorem d_F_countOf_48 : decode c_F_countOf 48 = .ok (.aload_n 0, 1) := by decide +kernel
theorem d_F_countOf_49 : decode c_F_countOf 49 = .ok (.getfield 58, 3) := by decide +kernel
theorem d_F_countOf_52 : decode c_F_countOf 52 = .ok (.ireturn, 1) := by decide +kernel
theorem d_F_countOf_53 : decode c_F_countOf 53 = .ok (.aload_n 0, 1) := by decide +kernel
theorem d_F_countOf_54 : decode c_F_countOf 54 = .ok (.getfield 12, 3) := by decide +kernel
theorem d_F_countOf_57 : decode c_F_countOf 57 = .ok (.invokevirtual 21, 3) := by decide +kernel
theorem d_F_countOf_60 : decode c_F_countOf 60 = .ok (.ireturn, 1) := by decide +kernel
theorem d_F_countOf_61 : decode c_F_countOf 61 = .ok (.aload_n 0, 1) := by decide +kernel
theorem d_F_countOf_62 : decode c_F_countOf 62 = .ok (.bipush 8, 2) := by decide +kernel
theorem d_F_countOf_64 : decode c_F_countOf 64 = .ok (.invokevirtual 186, 3) := by decide +kernel
theorem d_F_countOf_67 : decode c_F_countOf 67 = .ok (.ireturn, 1) := by decide +kernel
theorem d_F_countOf_68 : decode c_F_countOf 68 = .ok (.aload_n 0, 1) := by decide +kernel
theorem d_F_countOf_69 : decode c_F_countOf 69 = .ok (.getfield 18, 3) := by decide +kernel
theorem d_F_countOf_72 : decode c_F_countOf 72 = .ok (.invokevirtual 21, 3) := by decide +kernel
theorem d_F_countOf_75 : decode c_F_countOf 75 = .ok (.ireturn, 1) := by decide +kernel
theorem d_F_countOf_76 : decode c_F_countOf 76 = .ok (.aload_n 0, 1) := by decide +kernel
theorem d_F_countOf_77 : decode c_F_countOf 77 = .ok (.invokevirtual 189, 3) := by decide +kernel
theorem d_F_countOf_80 : decode c_F_countOf 80 = .ok (.ireturn, 1) := by decide +kernel
theorem d_F_countOf_81 : decode c_F_countOf 81 = .ok (.aload_n 0, 1) := by decide +kernel
theorem d_F_countOf_82 : decode c_F_countOf 82 = .ok (.iconst 3, 1) := by decide +kernel
theorem d_F_countOf_83 : decode c_F_countOf 83 = .ok (.invokevirtual 186, 3) := by decide +kernel
theorem d_F_countOf_86 : decode c_F_countOf 86 = .ok (.ireturn, 1) := by decide +kernel
theorem d_F_countOf_87 : decode c_F_countOf 87 = .ok (.aload_n 0, 1) := by decide +kernel
theorem d_F_countOf_88 : decode c_F_countOf 88 = .ok (.bipush 10, 2) := by decide +kernel
theorem d_F_countOf_90 : decode c_F_countOf 90 = .ok (.invokevirtual 186, 3) := by decide +kernel
theorem d_F_countOf_93 : decode c_F_countOf 93 = .ok (.ireturn, 1) := by decide +kernel
theorem d_F_countOf_94 : decode c_F_countOf 94 = .ok (.aload_n 0, 1) := by decide +kernel
theorem d_F_countOf_95 : decode c_F_countOf 95 = .ok (.bipush 11, 2) := by decide +kernel
theorem d_F_countOf_97 : decode c_F_countOf 97 = .ok (.invokevirtual 186, 3) := by decide +kernel
theorem d_F_countOf_100 : decode c_F_countOf 100 = .ok (.ireturn, 1) := by decide +kernel
theorem d_F_countOf_101 : decode c_F_countOf 101 = .ok (.aload_n 0, 1) := by decide +kernel
theorem d_F_countOf_102 : decode c_F_countOf 102 = .ok (.invokevirtual 192, 3) := by decide +kernel
theorem d_F_countOf_105 : decode c_F_countOf 105 = .ok (.ireturn, 1) := by decide +kernel
