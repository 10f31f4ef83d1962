theorem d_M_init_0 : decode c_M_init 0 = .ok (.aload_n 0, 1) := by decide +kernel
theorem d_M_init_1 : decode c_M_init 1 = .ok (.invokespecial 1, 3) := by decide +kernel
theorem d_M_init_4 : decode c_M_init 4 = .ok (.aload_n 0, 1) := by decide +kernel
theorem d_M_init_5 : decode c_M_init 5 = .ok (.bipush 40, 2) := by decide +kernel
theorem d_M_init_7 : decode c_M_init 7 = .ok (.newarray .int, 2) := by decide +kernel
theorem d_M_init_9 : decode c_M_init 9 = .ok (.putfield 9, 3) := by decide +kernel
theorem d_M_init_12 : decode c_M_init 12 = .ok (.aload_n 0, 1) := by decide +kernel
theorem d_M_init_13 : decode c_M_init 13 = .ok (.sipush 192, 3) := by decide +kernel
theorem d_M_init_16 : decode c_M_init 16 = .ok (.newarray .int, 2) := by decide +kernel
theorem d_M_init_18 : decode c_M_init 18 = .ok (.putfield 13, 3) := by decide +kernel
theorem d_M_init_21 : decode c_M_init 21 = .ok (.aload_n 0, 1) := by decide +kernel
theorem d_M_init_22 : decode c_M_init 22 = .ok (.bipush 8, 2) := by decide +kernel
theorem d_M_init_24 : decode c_M_init 24 = .ok (.newarray .int, 2) := by decide +kernel
theorem d_M_init_26 : decode c_M_init 26 = .ok (.putfield 16, 3) := by decide +kernel
theorem d_M_init_29 : decode c_M_init 29 = .ok (.aload_n 0, 1) := by decide +kernel
theorem d_M_init_30 : decode c_M_init 30 = .ok (.new 19, 3) := by decide +kernel
theorem d_M_init_33 : decode c_M_init 33 = .ok (.dup, 1) := by decide +kernel
theorem d_M_init_34 : decode c_M_init 34 = .ok (.aload_n 0, 1) := by decide +kernel
theorem d_M_init_35 : decode c_M_init 35 = .ok (.invokespecial 21, 3) := by decide +kernel
theorem d_M_init_38 : decode c_M_init 38 = .ok (.putfield 24, 3) := by decide +kernel
theorem d_M_init_41 : decode c_M_init 41 = .ok (.aload_n 0, 1) := by decide +kernel
theorem d_M_init_42 : decode c_M_init 42 = .ok (.new 19, 3) := by decide +kernel
theorem d_M_init_45 : decode c_M_init 45 = .ok (.dup, 1) := by decide +kernel
theorem d_M_init_46 : decode c_M_init 46 = .ok (.aload_n 0, 1) := by decide +kernel
theorem d_M_init_47 : decode c_M_init 47 = .ok (.invokespecial 21, 3) := by decide +kernel
theorem d_M_init_50 : decode c_M_init 50 = .ok (.putfield 28, 3) := by decide +kernel
theorem d_M_init_53 : decode c_M_init 53 = .ok (.iconst 0, 1) := by decide +kernel
theorem d_M_init_54 : decode c_M_init 54 = .ok (.istore_n 1, 1) := by decide +kernel
theorem d_M_init_55 : decode c_M_init 55 = .ok (.iload_n 1, 1) := by decide +kernel
theorem d_M_init_56 : decode c_M_init 56 = .ok (.bipush 8, 2) := by decide +kernel
theorem d_M_init_58 : decode c_M_init 58 = .ok (.if_icmp .ge 61, 3) := by decide +kernel
theorem d_M_init_61 : decode c_M_init 61 = .ok (.aload_n 0, 1) := by decide +kernel
theorem d_M_init_62 : decode c_M_init 62 = .ok (.getfield 16, 3) := by decide +kernel
theorem d_M_init_65 : decode c_M_init 65 = .ok (.iload_n 1, 1) := by decide +kernel
theorem d_M_init_66 : decode c_M_init 66 = .ok (.getstatic 31, 3) := by decide +kernel
theorem d_M_init_69 : decode c_M_init 69 = .ok (.iload_n 1, 1) := by decide +kernel
theorem d_M_init_70 : decode c_M_init 70 = .ok (.aaload, 1) := by decide +kernel
theorem d_M_init_71 : decode c_M_init 71 = .ok (.invokevirtual 35, 3) := by decide +kernel
theorem d_M_init_74 : decode c_M_init 74 = .ok (.iastore, 1) := by decide +kernel
theorem d_M_init_75 : decode c_M_init 75 = .ok (.iconst 0, 1) := by decide +kernel
theorem d_M_init_76 : decode c_M_init 76 = .ok (.istore_n 2, 1) := by decide +kernel
theorem d_M_init_77 : decode c_M_init 77 = .ok (.iload_n 2, 1) := by decide +kernel
theorem d_M_init_78 : decode c_M_init 78 = .ok (.aload_n 0, 1) := by decide +kernel
theorem d_M_init_79 : decode c_M_init 79 = .ok (.getfield 16, 3) := by decide +kernel
theorem d_M_init_82 : decode c_M_init 82 = .ok (.iload_n 1, 1) := by decide +kernel
theorem d_M_init_83 : decode c_M_init 83 = .ok (.iaload, 1) := by decide +kernel
theorem d_M_init_84 : decode c_M_init 84 = .ok (.if_icmp .ge 29, 3) := by decide +kernel
theorem d_M_init_87 : decode c_M_init 87 = .ok (.aload_n 0, 1) := by decide +kernel
theorem d_M_init_88 : decode c_M_init 88 = .ok (.getfield 13, 3) := by decide +kernel
theorem d_M_init_91 : decode c_M_init 91 = .ok (.bipush 24, 2) := by decide +kernel
theorem d_M_init_93 : decode c_M_init 93 = .ok (.iload_n 1, 1) := by decide +kernel
theorem d_M_init_94 : decode c_M_init 94 = .ok (.imul, 1) := by decide +kernel
theorem d_M_init_95 : decode c_M_init 95 = .ok (.iload_n 2, 1) := by decide +kernel
theorem d_M_init_96 : decode c_M_init 96 = .ok (.iadd, 1) := by decide +kernel
theorem d_M_init_97 : decode c_M_init 97 = .ok (.getstatic 31, 3) := by decide +kernel
theorem d_M_init_100 : decode c_M_init 100 = .ok (.iload_n 1, 1) := by decide +kernel
theorem d_M_init_101 : decode c_M_init 101 = .ok (.aaload, 1) := by decide +kernel
theorem d_M_init_102 : decode c_M_init 102 = .ok (.iload_n 2, 1) := by decide +kernel
theorem d_M_init_103 : decode c_M_init 103 = .ok (.invokevirtual 41, 3) := by decide +kernel
theorem d_M_init_106 : decode c_M_init 106 = .ok (.iastore, 1) := by decide +kernel
theorem d_M_init_107 : decode c_M_init 107 = .ok (.iinc 2 1, 3) := by decide +kernel
theorem d_M_init_110 : decode c_M_init 110 = .ok (.goto (-33), 3) := by decide +kernel
theorem d_M_init_113 : decode c_M_init 113 = .ok (.iinc 1 1, 3) := by decide +kernel
theorem d_M_init_116 : decode c_M_init 116 = .ok (.goto (-61), 3) := by decide +kernel
theorem d_M_init_119 : decode c_M_init 119 = .ok (.return_, 1) := by decide +kernel
theorem d_M_thrown_0 : decode c_M_thrown 0 = .ok (.aload_n 0, 1) := by decide +kernel
theorem d_M_thrown_1 : decode c_M_thrown 1 = .ok (.getfield 45, 3) := by decide +kernel
theorem d_M_thrown_4 : decode c_M_thrown 4 = .ok (.ireturn, 1) := by decide +kernel
theorem d_M_no_0 : decode c_M_no 0 = .ok (.aload_n 0, 1) := by decide +kernel
theorem d_M_no_1 : decode c_M_no 1 = .ok (.iload_n 1, 1) := by decide +kernel
theorem d_M_no_2 : decode c_M_no 2 = .ok (.putfield 45, 3) := by decide +kernel
theorem d_M_no_5 : decode c_M_no 5 = .ok (.iconst 0, 1) := by decide +kernel
theorem d_M_no_6 : decode c_M_no 6 = .ok (.ireturn, 1) := by decide +kernel
theorem d_M_isIn_0 : decode c_M_isIn 0 = .ok (.iload_n 0, 1) := by decide +kernel
theorem d_M_isIn_1 : decode c_M_isIn 1 = .ok (.iload_n 1, 1) := by decide +kernel
theorem d_M_isIn_2 : decode c_M_isIn 2 = .ok (.if_icmp .lt 12, 3) := by decide +kernel
theorem d_M_isIn_5 : decode c_M_isIn 5 = .ok (.iload_n 0, 1) := by decide +kernel
theorem d_M_isIn_6 : decode c_M_isIn 6 = .ok (.iload_n 2, 1) := by decide +kernel
theorem d_M_isIn_7 : decode c_M_isIn 7 = .ok (.if_icmp .gt 7, 3) := by decide +kernel
theorem d_M_isIn_10 : decode c_M_isIn 10 = .ok (.iconst 1, 1) := by decide +kernel
theorem d_M_isIn_11 : decode c_M_isIn 11 = .ok (.goto 4, 3) := by decide +kernel
theorem d_M_isIn_14 : decode c_M_isIn 14 = .ok (.iconst 0, 1) := by decide +kernel
theorem d_M_isIn_15 : decode c_M_isIn 15 = .ok (.ireturn, 1) := by decide +kernel
theorem d_M_feed_0 : decode c_M_feed 0 = .ok (.aload_n 0, 1) := by decide +kernel
theorem d_M_feed_1 : decode c_M_feed 1 = .ok (.iconst 0, 1) := by decide +kernel
theorem d_M_feed_2 : decode c_M_feed 2 = .ok (.putfield 45, 3) := by decide +kernel
theorem d_M_feed_5 : decode c_M_feed 5 = .ok (.aload_n 0, 1) := by decide +kernel
theorem d_M_feed_6 : decode c_M_feed 6 = .ok (.getfield 49, 3) := by decide +kernel
theorem d_M_feed_9 : decode c_M_feed 9 = .ok (.bipush 20, 2) := by decide +kernel
theorem d_M_feed_11 : decode c_M_feed 11 = .ok (.iadd, 1) := by decide +kernel
theorem d_M_feed_12 : decode c_M_feed 12 = .ok (.bipush 40, 2) := by decide +kernel
theorem d_M_feed_14 : decode c_M_feed 14 = .ok (.if_icmp .le 9, 3) := by decide +kernel
theorem d_M_feed_17 : decode c_M_feed 17 = .ok (.aload_n 0, 1) := by decide +kernel
theorem d_M_feed_18 : decode c_M_feed 18 = .ok (.iconst 1, 1) := by decide +kernel
theorem d_M_feed_19 : decode c_M_feed 19 = .ok (.invokevirtual 52, 3) := by decide +kernel
theorem d_M_feed_22 : decode c_M_feed 22 = .ok (.ireturn, 1) := by decide +kernel
theorem d_M_feed_23 : decode c_M_feed 23 = .ok (.iconst 5, 1) := by decide +kernel
theorem d_M_feed_24 : decode c_M_feed 24 = .ok (.newarray .int, 2) := by decide +kernel
theorem d_M_feed_26 : decode c_M_feed 26 = .ok (.dup, 1) := by decide +kernel
theorem d_M_feed_27 : decode c_M_feed 27 = .ok (.iconst 0, 1) := by decide +kernel
theorem d_M_feed_28 : decode c_M_feed 28 = .ok (.iload_n 1, 1) := by decide +kernel
theorem d_M_feed_29 : decode c_M_feed 29 = .ok (.iastore, 1) := by decide +kernel
theorem d_M_feed_30 : decode c_M_feed 30 = .ok (.dup, 1) := by decide +kernel
theorem d_M_feed_31 : decode c_M_feed 31 = .ok (.iconst 1, 1) := by decide +kernel
theorem d_M_feed_32 : decode c_M_feed 32 = .ok (.iload_n 2, 1) := by decide +kernel
theorem d_M_feed_33 : decode c_M_feed 33 = .ok (.iastore, 1) := by decide +kernel
theorem d_M_feed_34 : decode c_M_feed 34 = .ok (.dup, 1) := by decide +kernel
theorem d_M_feed_35 : decode c_M_feed 35 = .ok (.iconst 2, 1) := by decide +kernel
theorem d_M_feed_36 : decode c_M_feed 36 = .ok (.iload_n 3, 1) := by decide +kernel
theorem d_M_feed_37 : decode c_M_feed 37 = .ok (.iastore, 1) := by decide +kernel
theorem d_M_feed_38 : decode c_M_feed 38 = .ok (.dup, 1) := by decide +kernel
theorem d_M_feed_39 : decode c_M_feed 39 = .ok (.iconst 3, 1) := by decide +kernel
theorem d_M_feed_40 : decode c_M_feed 40 = .ok (.iload 4, 2) := by decide +kernel
theorem d_M_feed_42 : decode c_M_feed 42 = .ok (.iastore, 1) := by decide +kernel
theorem d_M_feed_43 : decode c_M_feed 43 = .ok (.dup, 1) := by decide +kernel
theorem d_M_feed_44 : decode c_M_feed 44 = .ok (.iconst 4, 1) := by decide +kernel
theorem d_M_feed_45 : decode c_M_feed 45 = .ok (.iload 5, 2) := by decide +kernel
theorem d_M_feed_47 : decode c_M_feed 47 = .ok (.iastore, 1) := by decide +kernel
theorem d_M_feed_48 : decode c_M_feed 48 = .ok (.astore 6, 2) := by decide +kernel
theorem d_M_feed_50 : decode c_M_feed 50 = .ok (.aload 6, 2) := by decide +kernel
theorem d_M_feed_52 : decode c_M_feed 52 = .ok (.astore 7, 2) := by decide +kernel
theorem d_M_feed_54 : decode c_M_feed 54 = .ok (.aload 7, 2) := by decide +kernel
theorem d_M_feed_56 : decode c_M_feed 56 = .ok (.arraylength, 1) := by decide +kernel
theorem d_M_feed_57 : decode c_M_feed 57 = .ok (.istore 8, 2) := by decide +kernel
theorem d_M_feed_59 : decode c_M_feed 59 = .ok (.iconst 0, 1) := by decide +kernel
theorem d_M_feed_60 : decode c_M_feed 60 = .ok (.istore 9, 2) := by decide +kernel
theorem d_M_feed_62 : decode c_M_feed 62 = .ok (.iload 9, 2) := by decide +kernel
theorem d_M_feed_64 : decode c_M_feed 64 = .ok (.iload 8, 2) := by decide +kernel
theorem d_M_feed_66 : decode c_M_feed 66 = .ok (.if_icmp .ge 61, 3) := by decide +kernel
theorem d_M_feed_69 : decode c_M_feed 69 = .ok (.aload 7, 2) := by decide +kernel
theorem d_M_feed_71 : decode c_M_feed 71 = .ok (.iload 9, 2) := by decide +kernel
theorem d_M_feed_73 : decode c_M_feed 73 = .ok (.iaload, 1) := by decide +kernel
theorem d_M_feed_74 : decode c_M_feed 74 = .ok (.istore 10, 2) := by decide +kernel
theorem d_M_feed_76 : decode c_M_feed 76 = .ok (.iconst 3, 1) := by decide +kernel
theorem d_M_feed_77 : decode c_M_feed 77 = .ok (.istore 11, 2) := by decide +kernel
theorem d_M_feed_79 : decode c_M_feed 79 = .ok (.iload 11, 2) := by decide +kernel
theorem d_M_feed_81 : decode c_M_feed 81 = .ok (.ifCond .lt 40, 3) := by decide +kernel
theorem d_M_feed_84 : decode c_M_feed 84 = .ok (.aload_n 0, 1) := by decide +kernel
theorem d_M_feed_85 : decode c_M_feed 85 = .ok (.getfield 9, 3) := by decide +kernel
theorem d_M_feed_88 : decode c_M_feed 88 = .ok (.aload_n 0, 1) := by decide +kernel
theorem d_M_feed_89 : decode c_M_feed 89 = .ok (.getfield 49, 3) := by decide +kernel
theorem d_M_feed_92 : decode c_M_feed 92 = .ok (.iload 10, 2) := by decide +kernel
theorem d_M_feed_94 : decode c_M_feed 94 = .ok (.bipush 8, 2) := by decide +kernel
theorem d_M_feed_96 : decode c_M_feed 96 = .ok (.iload 11, 2) := by decide +kernel
theorem d_M_feed_98 : decode c_M_feed 98 = .ok (.imul, 1) := by decide +kernel
theorem d_M_feed_99 : decode c_M_feed 99 = .ok (.ishr, 1) := by decide +kernel
theorem d_M_feed_100 : decode c_M_feed 100 = .ok (.sipush 255, 3) := by decide +kernel
theorem d_M_feed_103 : decode c_M_feed 103 = .ok (.iand, 1) := by decide +kernel
theorem d_M_feed_104 : decode c_M_feed 104 = .ok (.iastore, 1) := by decide +kernel
theorem d_M_feed_105 : decode c_M_feed 105 = .ok (.aload_n 0, 1) := by decide +kernel
theorem d_M_feed_106 : decode c_M_feed 106 = .ok (.dup, 1) := by decide +kernel
theorem d_M_feed_107 : decode c_M_feed 107 = .ok (.getfield 49, 3) := by decide +kernel
theorem d_M_feed_110 : decode c_M_feed 110 = .ok (.iconst 1, 1) := by decide +kernel
theorem d_M_feed_111 : decode c_M_feed 111 = .ok (.iadd, 1) := by decide +kernel
theorem d_M_feed_112 : decode c_M_feed 112 = .ok (.putfield 49, 3) := by decide +kernel
theorem d_M_feed_115 : decode c_M_feed 115 = .ok (.iinc 11 (-1), 3) := by decide +kernel
theorem d_M_feed_118 : decode c_M_feed 118 = .ok (.goto (-39), 3) := by decide +kernel
theorem d_M_feed_121 : decode c_M_feed 121 = .ok (.iinc 9 1, 3) := by decide +kernel
theorem d_M_feed_124 : decode c_M_feed 124 = .ok (.goto (-62), 3) := by decide +kernel
theorem d_M_feed_127 : decode c_M_feed 127 = .ok (.aload_n 0, 1) := by decide +kernel
theorem d_M_feed_128 : decode c_M_feed 128 = .ok (.getfield 49, 3) := by decide +kernel
theorem d_M_feed_131 : decode c_M_feed 131 = .ok (.ireturn, 1) := by decide +kernel
theorem d_M_trim_0 : decode c_M_trim 0 = .ok (.aload_n 0, 1) := by decide +kernel
theorem d_M_trim_1 : decode c_M_trim 1 = .ok (.iconst 0, 1) := by decide +kernel
theorem d_M_trim_2 : decode c_M_trim 2 = .ok (.putfield 45, 3) := by decide +kernel
theorem d_M_trim_5 : decode c_M_trim 5 = .ok (.iload_n 1, 1) := by decide +kernel
theorem d_M_trim_6 : decode c_M_trim 6 = .ok (.iconst 0, 1) := by decide +kernel
theorem d_M_trim_7 : decode c_M_trim 7 = .ok (.aload_n 0, 1) := by decide +kernel
theorem d_M_trim_8 : decode c_M_trim 8 = .ok (.getfield 49, 3) := by decide +kernel
theorem d_M_trim_11 : decode c_M_trim 11 = .ok (.invokestatic 56, 3) := by decide +kernel
theorem d_M_trim_14 : decode c_M_trim 14 = .ok (.ifCond .ne 9, 3) := by decide +kernel
theorem d_M_trim_17 : decode c_M_trim 17 = .ok (.aload_n 0, 1) := by decide +kernel
theorem d_M_trim_18 : decode c_M_trim 18 = .ok (.iconst 1, 1) := by decide +kernel
theorem d_M_trim_19 : decode c_M_trim 19 = .ok (.invokevirtual 52, 3) := by decide +kernel
theorem d_M_trim_22 : decode c_M_trim 22 = .ok (.ireturn, 1) := by decide +kernel
theorem d_M_trim_23 : decode c_M_trim 23 = .ok (.aload_n 0, 1) := by decide +kernel
theorem d_M_trim_24 : decode c_M_trim 24 = .ok (.iload_n 1, 1) := by decide +kernel
theorem d_M_trim_25 : decode c_M_trim 25 = .ok (.putfield 49, 3) := by decide +kernel
theorem d_M_trim_28 : decode c_M_trim 28 = .ok (.iload_n 1, 1) := by decide +kernel
theorem d_M_trim_29 : decode c_M_trim 29 = .ok (.ireturn, 1) := by decide +kernel
theorem d_M_isFigure_0 : decode c_M_isFigure 0 = .ok (.iconst 0, 1) := by decide +kernel
theorem d_M_isFigure_1 : decode c_M_isFigure 1 = .ok (.istore_n 1, 1) := by decide +kernel
theorem d_M_isFigure_2 : decode c_M_isFigure 2 = .ok (.iconst 0, 1) := by decide +kernel
theorem d_M_isFigure_3 : decode c_M_isFigure 3 = .ok (.istore_n 2, 1) := by decide +kernel
theorem d_M_isFigure_4 : decode c_M_isFigure 4 = .ok (.iload_n 2, 1) := by decide +kernel
theorem d_M_isFigure_5 : decode c_M_isFigure 5 = .ok (.bipush 8, 2) := by decide +kernel
theorem d_M_isFigure_7 : decode c_M_isFigure 7 = .ok (.if_icmp .ge 29, 3) := by decide +kernel
theorem d_M_isFigure_10 : decode c_M_isFigure 10 = .ok (.iload_n 1, 1) := by decide +kernel
theorem d_M_isFigure_11 : decode c_M_isFigure 11 = .ok (.ifCond .ne 13, 3) := by decide +kernel
theorem d_M_isFigure_14 : decode c_M_isFigure 14 = .ok (.ldc 60, 2) := by decide +kernel
theorem d_M_isFigure_16 : decode c_M_isFigure 16 = .ok (.iload_n 2, 1) := by decide +kernel
theorem d_M_isFigure_17 : decode c_M_isFigure 17 = .ok (.invokevirtual 41, 3) := by decide +kernel
theorem d_M_isFigure_20 : decode c_M_isFigure 20 = .ok (.iload_n 0, 1) := by decide +kernel
theorem d_M_isFigure_21 : decode c_M_isFigure 21 = .ok (.if_icmp .ne 7, 3) := by decide +kernel
theorem d_M_isFigure_24 : decode c_M_isFigure 24 = .ok (.iconst 1, 1) := by decide +kernel
theorem d_M_isFigure_25 : decode c_M_isFigure 25 = .ok (.goto 4, 3) := by decide +kernel
theorem d_M_isFigure_28 : decode c_M_isFigure 28 = .ok (.iconst 0, 1) := by decide +kernel
theorem d_M_isFigure_29 : decode c_M_isFigure 29 = .ok (.istore_n 1, 1) := by decide +kernel
theorem d_M_isFigure_30 : decode c_M_isFigure 30 = .ok (.iinc 2 1, 3) := by decide +kernel
theorem d_M_isFigure_33 : decode c_M_isFigure 33 = .ok (.goto (-29), 3) := by decide +kernel
theorem d_M_isFigure_36 : decode c_M_isFigure 36 = .ok (.iload_n 1, 1) := by decide +kernel
theorem d_M_isFigure_37 : decode c_M_isFigure 37 = .ok (.ireturn, 1) := by decide +kernel
theorem d_M_learn_0 : decode c_M_learn 0 = .ok (.aload_n 0, 1) := by decide +kernel
theorem d_M_learn_1 : decode c_M_learn 1 = .ok (.iconst 0, 1) := by decide +kernel
theorem d_M_learn_2 : decode c_M_learn 2 = .ok (.putfield 45, 3) := by decide +kernel
theorem d_M_learn_5 : decode c_M_learn 5 = .ok (.iload_n 1, 1) := by decide +kernel
theorem d_M_learn_6 : decode c_M_learn 6 = .ok (.iconst 0, 1) := by decide +kernel
theorem d_M_learn_7 : decode c_M_learn 7 = .ok (.bipush 7, 2) := by decide +kernel
theorem d_M_learn_9 : decode c_M_learn 9 = .ok (.invokestatic 56, 3) := by decide +kernel
theorem d_M_learn_12 : decode c_M_learn 12 = .ok (.ifCond .ne 9, 3) := by decide +kernel
theorem d_M_learn_15 : decode c_M_learn 15 = .ok (.aload_n 0, 1) := by decide +kernel
theorem d_M_learn_16 : decode c_M_learn 16 = .ok (.iconst 1, 1) := by decide +kernel
theorem d_M_learn_17 : decode c_M_learn 17 = .ok (.invokevirtual 52, 3) := by decide +kernel
theorem d_M_learn_20 : decode c_M_learn 20 = .ok (.ireturn, 1) := by decide +kernel
theorem d_M_learn_21 : decode c_M_learn 21 = .ok (.aload_n 0, 1) := by decide +kernel
theorem d_M_learn_22 : decode c_M_learn 22 = .ok (.getfield 49, 3) := by decide +kernel
theorem d_M_learn_25 : decode c_M_learn 25 = .ok (.istore_n 2, 1) := by decide +kernel
theorem d_M_learn_26 : decode c_M_learn 26 = .ok (.aload_n 0, 1) := by decide +kernel
theorem d_M_learn_27 : decode c_M_learn 27 = .ok (.iconst 0, 1) := by decide +kernel
theorem d_M_learn_28 : decode c_M_learn 28 = .ok (.putfield 49, 3) := by decide +kernel
theorem d_M_learn_31 : decode c_M_learn 31 = .ok (.iload_n 2, 1) := by decide +kernel
theorem d_M_learn_32 : decode c_M_learn 32 = .ok (.iconst 1, 1) := by decide +kernel
theorem d_M_learn_33 : decode c_M_learn 33 = .ok (.bipush 24, 2) := by decide +kernel
theorem d_M_learn_35 : decode c_M_learn 35 = .ok (.invokestatic 56, 3) := by decide +kernel
theorem d_M_learn_38 : decode c_M_learn 38 = .ok (.istore_n 3, 1) := by decide +kernel
theorem d_M_learn_39 : decode c_M_learn 39 = .ok (.iconst 0, 1) := by decide +kernel
theorem d_M_learn_40 : decode c_M_learn 40 = .ok (.istore 4, 2) := by decide +kernel
theorem d_M_learn_42 : decode c_M_learn 42 = .ok (.iload 4, 2) := by decide +kernel
theorem d_M_learn_44 : decode c_M_learn 44 = .ok (.iload_n 2, 1) := by decide +kernel
theorem d_M_learn_45 : decode c_M_learn 45 = .ok (.if_icmp .ge 32, 3) := by decide +kernel
theorem d_M_learn_48 : decode c_M_learn 48 = .ok (.iload_n 3, 1) := by decide +kernel
theorem d_M_learn_49 : decode c_M_learn 49 = .ok (.ifCond .eq 20, 3) := by decide +kernel
theorem d_M_learn_52 : decode c_M_learn 52 = .ok (.aload_n 0, 1) := by decide +kernel
theorem d_M_learn_53 : decode c_M_learn 53 = .ok (.getfield 9, 3) := by decide +kernel
theorem d_M_learn_56 : decode c_M_learn 56 = .ok (.iload 4, 2) := by decide +kernel
theorem d_M_learn_58 : decode c_M_learn 58 = .ok (.iaload, 1) := by decide +kernel
theorem d_M_learn_59 : decode c_M_learn 59 = .ok (.invokestatic 62, 3) := by decide +kernel
theorem d_M_learn_62 : decode c_M_learn 62 = .ok (.ifCond .eq 7, 3) := by decide +kernel
theorem d_M_learn_65 : decode c_M_learn 65 = .ok (.iconst 1, 1) := by decide +kernel
theorem d_M_learn_66 : decode c_M_learn 66 = .ok (.goto 4, 3) := by decide +kernel
theorem d_M_learn_69 : decode c_M_learn 69 = .ok (.iconst 0, 1) := by decide +kernel
theorem d_M_learn_70 : decode c_M_learn 70 = .ok (.istore_n 3, 1) := by decide +kernel
theorem d_M_learn_71 : decode c_M_learn 71 = .ok (.iinc 4 1, 3) := by decide +kernel
theorem d_M_learn_74 : decode c_M_learn 74 = .ok (.goto (-32), 3) := by decide +kernel
theorem d_M_learn_77 : decode c_M_learn 77 = .ok (.iload_n 3, 1) := by decide +kernel
theorem d_M_learn_78 : decode c_M_learn 78 = .ok (.ifCond .ne 5, 3) := by decide +kernel
theorem d_M_learn_81 : decode c_M_learn 81 = .ok (.iconst (-1), 1) := by decide +kernel
theorem d_M_learn_82 : decode c_M_learn 82 = .ok (.ireturn, 1) := by decide +kernel
theorem d_M_learn_83 : decode c_M_learn 83 = .ok (.aload_n 0, 1) := by decide +kernel
theorem d_M_learn_84 : decode c_M_learn 84 = .ok (.getfield 16, 3) := by decide +kernel
theorem d_M_learn_87 : decode c_M_learn 87 = .ok (.iload_n 1, 1) := by decide +kernel
theorem d_M_learn_88 : decode c_M_learn 88 = .ok (.iload_n 2, 1) := by decide +kernel
theorem d_M_learn_89 : decode c_M_learn 89 = .ok (.iastore, 1) := by decide +kernel
theorem d_M_learn_90 : decode c_M_learn 90 = .ok (.aload_n 0, 1) := by decide +kernel
theorem d_M_learn_91 : decode c_M_learn 91 = .ok (.getfield 9, 3) := by decide +kernel
theorem d_M_learn_94 : decode c_M_learn 94 = .ok (.iconst 0, 1) := by decide +kernel
theorem d_M_learn_95 : decode c_M_learn 95 = .ok (.aload_n 0, 1) := by decide +kernel
theorem d_M_learn_96 : decode c_M_learn 96 = .ok (.getfield 13, 3) := by decide +kernel
theorem d_M_learn_99 : decode c_M_learn 99 = .ok (.bipush 24, 2) := by decide +kernel
theorem d_M_learn_101 : decode c_M_learn 101 = .ok (.iload_n 1, 1) := by decide +kernel
theorem d_M_learn_102 : decode c_M_learn 102 = .ok (.imul, 1) := by decide +kernel
theorem d_M_learn_103 : decode c_M_learn 103 = .ok (.iload_n 2, 1) := by decide +kernel
theorem d_M_learn_104 : decode c_M_learn 104 = .ok (.invokestatic 66, 3) := by decide +kernel
theorem d_M_learn_107 : decode c_M_learn 107 = .ok (.iconst 0, 1) := by decide +kernel
theorem d_M_learn_108 : decode c_M_learn 108 = .ok (.istore 4, 2) := by decide +kernel
theorem d_M_learn_110 : decode c_M_learn 110 = .ok (.iload 4, 2) := by decide +kernel
theorem d_M_learn_112 : decode c_M_learn 112 = .ok (.aload_n 0, 1) := by decide +kernel
theorem d_M_learn_113 : decode c_M_learn 113 = .ok (.getfield 24, 3) := by decide +kernel
theorem d_M_learn_116 : decode c_M_learn 116 = .ok (.getfield 72, 3) := by decide +kernel
theorem d_M_learn_119 : decode c_M_learn 119 = .ok (.if_icmp .ge 48, 3) := by decide +kernel
theorem d_M_learn_122 : decode c_M_learn 122 = .ok (.aload_n 0, 1) := by decide +kernel
theorem d_M_learn_123 : decode c_M_learn 123 = .ok (.getfield 24, 3) := by decide +kernel
theorem d_M_learn_126 : decode c_M_learn 126 = .ok (.getfield 75, 3) := by decide +kernel
theorem d_M_learn_129 : decode c_M_learn 129 = .ok (.iload 4, 2) := by decide +kernel
theorem d_M_learn_131 : decode c_M_learn 131 = .ok (.iaload, 1) := by decide +kernel
theorem d_M_learn_132 : decode c_M_learn 132 = .ok (.iload_n 1, 1) := by decide +kernel
theorem d_M_learn_133 : decode c_M_learn 133 = .ok (.if_icmp .ne 28, 3) := by decide +kernel
theorem d_M_learn_136 : decode c_M_learn 136 = .ok (.aload_n 0, 1) := by decide +kernel
theorem d_M_learn_137 : decode c_M_learn 137 = .ok (.getfield 24, 3) := by decide +kernel
theorem d_M_learn_140 : decode c_M_learn 140 = .ok (.getfield 78, 3) := by decide +kernel
theorem d_M_learn_143 : decode c_M_learn 143 = .ok (.iload 4, 2) := by decide +kernel
theorem d_M_learn_145 : decode c_M_learn 145 = .ok (.iaload, 1) := by decide +kernel
theorem d_M_learn_146 : decode c_M_learn 146 = .ok (.iload_n 2, 1) := by decide +kernel
theorem d_M_learn_147 : decode c_M_learn 147 = .ok (.if_icmp .lt 14, 3) := by decide +kernel
theorem d_M_learn_150 : decode c_M_learn 150 = .ok (.aload_n 0, 1) := by decide +kernel
theorem d_M_learn_151 : decode c_M_learn 151 = .ok (.getfield 24, 3) := by decide +kernel
theorem d_M_learn_154 : decode c_M_learn 154 = .ok (.getfield 78, 3) := by decide +kernel
theorem d_M_learn_157 : decode c_M_learn 157 = .ok (.iload 4, 2) := by decide +kernel
theorem d_M_learn_159 : decode c_M_learn 159 = .ok (.iconst 0, 1) := by decide +kernel
theorem d_M_learn_160 : decode c_M_learn 160 = .ok (.iastore, 1) := by decide +kernel
theorem d_M_learn_161 : decode c_M_learn 161 = .ok (.iinc 4 1, 3) := by decide +kernel
theorem d_M_learn_164 : decode c_M_learn 164 = .ok (.goto (-54), 3) := by decide +kernel
theorem d_M_learn_167 : decode c_M_learn 167 = .ok (.iload_n 2, 1) := by decide +kernel
theorem d_M_learn_168 : decode c_M_learn 168 = .ok (.ireturn, 1) := by decide +kernel
theorem d_M_figure_0 : decode c_M_figure 0 = .ok (.aload_n 0, 1) := by decide +kernel
theorem d_M_figure_1 : decode c_M_figure 1 = .ok (.iconst 0, 1) := by decide +kernel
theorem d_M_figure_2 : decode c_M_figure 2 = .ok (.putfield 45, 3) := by decide +kernel
theorem d_M_figure_5 : decode c_M_figure 5 = .ok (.iload_n 1, 1) := by decide +kernel
theorem d_M_figure_6 : decode c_M_figure 6 = .ok (.iconst 0, 1) := by decide +kernel
theorem d_M_figure_7 : decode c_M_figure 7 = .ok (.bipush 7, 2) := by decide +kernel
theorem d_M_figure_9 : decode c_M_figure 9 = .ok (.invokestatic 56, 3) := by decide +kernel
theorem d_M_figure_12 : decode c_M_figure 12 = .ok (.ifCond .eq 33, 3) := by decide +kernel
theorem d_M_figure_15 : decode c_M_figure 15 = .ok (.iload_n 2, 1) := by decide +kernel
theorem d_M_figure_16 : decode c_M_figure 16 = .ok (.iconst 0, 1) := by decide +kernel
theorem d_M_figure_17 : decode c_M_figure 17 = .ok (.aload_n 0, 1) := by decide +kernel
theorem d_M_figure_18 : decode c_M_figure 18 = .ok (.getfield 16, 3) := by decide +kernel
theorem d_M_figure_21 : decode c_M_figure 21 = .ok (.iload_n 1, 1) := by decide +kernel
theorem d_M_figure_22 : decode c_M_figure 22 = .ok (.iaload, 1) := by decide +kernel
theorem d_M_figure_23 : decode c_M_figure 23 = .ok (.iconst 1, 1) := by decide +kernel
theorem d_M_figure_24 : decode c_M_figure 24 = .ok (.isub, 1) := by decide +kernel
theorem d_M_figure_25 : decode c_M_figure 25 = .ok (.invokestatic 56, 3) := by decide +kernel
theorem d_M_figure_28 : decode c_M_figure 28 = .ok (.ifCond .eq 17, 3) := by decide +kernel
theorem d_M_figure_31 : decode c_M_figure 31 = .ok (.aload_n 0, 1) := by decide +kernel
theorem d_M_figure_32 : decode c_M_figure 32 = .ok (.getfield 13, 3) := by decide +kernel
theorem d_M_figure_35 : decode c_M_figure 35 = .ok (.bipush 24, 2) := by decide +kernel
theorem d_M_figure_37 : decode c_M_figure 37 = .ok (.iload_n 1, 1) := by decide +kernel
theorem d_M_figure_38 : decode c_M_figure 38 = .ok (.imul, 1) := by decide +kernel
theorem d_M_figure_39 : decode c_M_figure 39 = .ok (.iload_n 2, 1) := by decide +kernel
theorem d_M_figure_40 : decode c_M_figure 40 = .ok (.iadd, 1) := by decide +kernel
theorem d_M_figure_41 : decode c_M_figure 41 = .ok (.iaload, 1) := by decide +kernel
theorem d_M_figure_42 : decode c_M_figure 42 = .ok (.goto 8, 3) := by decide +kernel
theorem d_M_figure_45 : decode c_M_figure 45 = .ok (.aload_n 0, 1) := by decide +kernel
theorem d_M_figure_46 : decode c_M_figure 46 = .ok (.iconst 1, 1) := by decide +kernel
theorem d_M_figure_47 : decode c_M_figure 47 = .ok (.invokevirtual 52, 3) := by decide +kernel
theorem d_M_figure_50 : decode c_M_figure 50 = .ok (.ireturn, 1) := by decide +kernel
theorem d_M_drift_0 : decode c_M_drift 0 = .ok (.aload_n 0, 1) := by decide +kernel
theorem d_M_drift_1 : decode c_M_drift 1 = .ok (.iconst 0, 1) := by decide +kernel
theorem d_M_drift_2 : decode c_M_drift 2 = .ok (.putfield 45, 3) := by decide +kernel
theorem d_M_drift_5 : decode c_M_drift 5 = .ok (.iload_n 1, 1) := by decide +kernel
theorem d_M_drift_6 : decode c_M_drift 6 = .ok (.iconst 0, 1) := by decide +kernel
theorem d_M_drift_7 : decode c_M_drift 7 = .ok (.bipush 7, 2) := by decide +kernel
theorem d_M_drift_9 : decode c_M_drift 9 = .ok (.invokestatic 56, 3) := by decide +kernel
theorem d_M_drift_12 : decode c_M_drift 12 = .ok (.ifCond .eq 12, 3) := by decide +kernel
theorem d_M_drift_15 : decode c_M_drift 15 = .ok (.iload_n 2, 1) := by decide +kernel
theorem d_M_drift_16 : decode c_M_drift 16 = .ok (.iconst 0, 1) := by decide +kernel
theorem d_M_drift_17 : decode c_M_drift 17 = .ok (.iconst 3, 1) := by decide +kernel
theorem d_M_drift_18 : decode c_M_drift 18 = .ok (.invokestatic 56, 3) := by decide +kernel
theorem d_M_drift_21 : decode c_M_drift 21 = .ok (.ifCond .ne 9, 3) := by decide +kernel
theorem d_M_drift_24 : decode c_M_drift 24 = .ok (.aload_n 0, 1) := by decide +kernel
theorem d_M_drift_25 : decode c_M_drift 25 = .ok (.iconst 1, 1) := by decide +kernel
theorem d_M_drift_26 : decode c_M_drift 26 = .ok (.invokevirtual 52, 3) := by decide +kernel
theorem d_M_drift_29 : decode c_M_drift 29 = .ok (.ireturn, 1) := by decide +kernel
theorem d_M_drift_30 : decode c_M_drift 30 = .ok (.iconst 0, 1) := by decide +kernel
theorem d_M_drift_31 : decode c_M_drift 31 = .ok (.istore_n 3, 1) := by decide +kernel
theorem d_M_drift_32 : decode c_M_drift 32 = .ok (.iconst 0, 1) := by decide +kernel
theorem d_M_drift_33 : decode c_M_drift 33 = .ok (.istore 4, 2) := by decide +kernel
theorem d_M_drift_35 : decode c_M_drift 35 = .ok (.iconst 0, 1) := by decide +kernel
theorem d_M_drift_36 : decode c_M_drift 36 = .ok (.istore 5, 2) := by decide +kernel
theorem d_M_drift_38 : decode c_M_drift 38 = .ok (.iconst 0, 1) := by decide +kernel
theorem d_M_drift_39 : decode c_M_drift 39 = .ok (.istore 6, 2) := by decide +kernel
theorem d_M_drift_41 : decode c_M_drift 41 = .ok (.iload 6, 2) := by decide +kernel
theorem d_M_drift_43 : decode c_M_drift 43 = .ok (.aload_n 0, 1) := by decide +kernel
theorem d_M_drift_44 : decode c_M_drift 44 = .ok (.getfield 16, 3) := by decide +kernel
theorem d_M_drift_47 : decode c_M_drift 47 = .ok (.iload_n 1, 1) := by decide +kernel
theorem d_M_drift_48 : decode c_M_drift 48 = .ok (.iaload, 1) := by decide +kernel
theorem d_M_drift_49 : decode c_M_drift 49 = .ok (.if_icmp .ge 136, 3) := by decide +kernel
theorem d_M_drift_52 : decode c_M_drift 52 = .ok (.aload_n 0, 1) := by decide +kernel
theorem d_M_drift_53 : decode c_M_drift 53 = .ok (.getfield 13, 3) := by decide +kernel
theorem d_M_drift_56 : decode c_M_drift 56 = .ok (.bipush 24, 2) := by decide +kernel
theorem d_M_drift_58 : decode c_M_drift 58 = .ok (.iload_n 1, 1) := by decide +kernel
theorem d_M_drift_59 : decode c_M_drift 59 = .ok (.imul, 1) := by decide +kernel
theorem d_M_drift_60 : decode c_M_drift 60 = .ok (.iload 6, 2) := by decide +kernel
theorem d_M_drift_62 : decode c_M_drift 62 = .ok (.iadd, 1) := by decide +kernel
theorem d_M_drift_63 : decode c_M_drift 63 = .ok (.iaload, 1) := by decide +kernel
theorem d_M_drift_64 : decode c_M_drift 64 = .ok (.istore 7, 2) := by decide +kernel
theorem d_M_drift_66 : decode c_M_drift 66 = .ok (.iload 7, 2) := by decide +kernel
theorem d_M_drift_68 : decode c_M_drift 68 = .ok (.bipush 102, 2) := by decide +kernel
theorem d_M_drift_70 : decode c_M_drift 70 = .ok (.if_icmp .ne 7, 3) := by decide +kernel
theorem d_M_drift_73 : decode c_M_drift 73 = .ok (.iconst 0, 1) := by decide +kernel
theorem d_M_drift_74 : decode c_M_drift 74 = .ok (.goto 37, 3) := by decide +kernel
theorem d_M_drift_77 : decode c_M_drift 77 = .ok (.iload 7, 2) := by decide +kernel
theorem d_M_drift_79 : decode c_M_drift 79 = .ok (.bipush 114, 2) := by decide +kernel
theorem d_M_drift_81 : decode c_M_drift 81 = .ok (.if_icmp .ne 7, 3) := by decide +kernel
theorem d_M_drift_84 : decode c_M_drift 84 = .ok (.iconst 1, 1) := by decide +kernel
theorem d_M_drift_85 : decode c_M_drift 85 = .ok (.goto 26, 3) := by decide +kernel
theorem d_M_drift_88 : decode c_M_drift 88 = .ok (.iload 7, 2) := by decide +kernel
theorem d_M_drift_90 : decode c_M_drift 90 = .ok (.bipush 98, 2) := by decide +kernel
theorem d_M_drift_92 : decode c_M_drift 92 = .ok (.if_icmp .ne 7, 3) := by decide +kernel
theorem d_M_drift_95 : decode c_M_drift 95 = .ok (.iconst 2, 1) := by decide +kernel
theorem d_M_drift_96 : decode c_M_drift 96 = .ok (.goto 15, 3) := by decide +kernel
theorem d_M_drift_99 : decode c_M_drift 99 = .ok (.iload 7, 2) := by decide +kernel
theorem d_M_drift_101 : decode c_M_drift 101 = .ok (.bipush 108, 2) := by decide +kernel
theorem d_M_drift_103 : decode c_M_drift 103 = .ok (.if_icmp .ne 7, 3) := by decide +kernel
theorem d_M_drift_106 : decode c_M_drift 106 = .ok (.iconst 3, 1) := by decide +kernel
theorem d_M_drift_107 : decode c_M_drift 107 = .ok (.goto 4, 3) := by decide +kernel
theorem d_M_drift_110 : decode c_M_drift 110 = .ok (.iconst (-1), 1) := by decide +kernel
theorem d_M_drift_111 : decode c_M_drift 111 = .ok (.istore 8, 2) := by decide +kernel
theorem d_M_drift_113 : decode c_M_drift 113 = .ok (.iload 8, 2) := by decide +kernel
theorem d_M_drift_115 : decode c_M_drift 115 = .ok (.iconst (-1), 1) := by decide +kernel
theorem d_M_drift_116 : decode c_M_drift 116 = .ok (.if_icmp .eq 33, 3) := by decide +kernel
theorem d_M_drift_119 : decode c_M_drift 119 = .ok (.iload_n 3, 1) := by decide +kernel
theorem d_M_drift_120 : decode c_M_drift 120 = .ok (.getstatic 81, 3) := by decide +kernel
theorem d_M_drift_123 : decode c_M_drift 123 = .ok (.iload 5, 2) := by decide +kernel
theorem d_M_drift_125 : decode c_M_drift 125 = .ok (.iload 8, 2) := by decide +kernel
theorem d_M_drift_127 : decode c_M_drift 127 = .ok (.iadd, 1) := by decide +kernel
theorem d_M_drift_128 : decode c_M_drift 128 = .ok (.iconst 4, 1) := by decide +kernel
theorem d_M_drift_129 : decode c_M_drift 129 = .ok (.irem, 1) := by decide +kernel
theorem d_M_drift_130 : decode c_M_drift 130 = .ok (.iaload, 1) := by decide +kernel
theorem d_M_drift_131 : decode c_M_drift 131 = .ok (.iadd, 1) := by decide +kernel
theorem d_M_drift_132 : decode c_M_drift 132 = .ok (.istore_n 3, 1) := by decide +kernel
theorem d_M_drift_133 : decode c_M_drift 133 = .ok (.iload 4, 2) := by decide +kernel
theorem d_M_drift_135 : decode c_M_drift 135 = .ok (.getstatic 84, 3) := by decide +kernel
theorem d_M_drift_138 : decode c_M_drift 138 = .ok (.iload 5, 2) := by decide +kernel
theorem d_M_drift_140 : decode c_M_drift 140 = .ok (.iload 8, 2) := by decide +kernel
theorem d_M_drift_142 : decode c_M_drift 142 = .ok (.iadd, 1) := by decide +kernel
theorem d_M_drift_143 : decode c_M_drift 143 = .ok (.iconst 4, 1) := by decide +kernel
theorem d_M_drift_144 : decode c_M_drift 144 = .ok (.irem, 1) := by decide +kernel
theorem d_M_drift_145 : decode c_M_drift 145 = .ok (.iaload, 1) := by decide +kernel
theorem d_M_drift_146 : decode c_M_drift 146 = .ok (.iadd, 1) := by decide +kernel
theorem d_M_drift_147 : decode c_M_drift 147 = .ok (.istore 4, 2) := by decide +kernel
theorem d_M_drift_149 : decode c_M_drift 149 = .ok (.iload 5, 2) := by decide +kernel
theorem d_M_drift_151 : decode c_M_drift 151 = .ok (.iload 7, 2) := by decide +kernel
theorem d_M_drift_153 : decode c_M_drift 153 = .ok (.bipush 116, 2) := by decide +kernel
theorem d_M_drift_155 : decode c_M_drift 155 = .ok (.if_icmp .ne 7, 3) := by decide +kernel
theorem d_M_drift_158 : decode c_M_drift 158 = .ok (.iconst 1, 1) := by decide +kernel
theorem d_M_drift_159 : decode c_M_drift 159 = .ok (.goto 15, 3) := by decide +kernel
theorem d_M_drift_162 : decode c_M_drift 162 = .ok (.iload 7, 2) := by decide +kernel
theorem d_M_drift_164 : decode c_M_drift 164 = .ok (.bipush 117, 2) := by decide +kernel
theorem d_M_drift_166 : decode c_M_drift 166 = .ok (.if_icmp .ne 7, 3) := by decide +kernel
theorem d_M_drift_169 : decode c_M_drift 169 = .ok (.iconst 3, 1) := by decide +kernel
theorem d_M_drift_170 : decode c_M_drift 170 = .ok (.goto 4, 3) := by decide +kernel
theorem d_M_drift_173 : decode c_M_drift 173 = .ok (.iconst 0, 1) := by decide +kernel
theorem d_M_drift_174 : decode c_M_drift 174 = .ok (.iadd, 1) := by decide +kernel
theorem d_M_drift_175 : decode c_M_drift 175 = .ok (.iconst 4, 1) := by decide +kernel
theorem d_M_drift_176 : decode c_M_drift 176 = .ok (.irem, 1) := by decide +kernel
theorem d_M_drift_177 : decode c_M_drift 177 = .ok (.istore 5, 2) := by decide +kernel
theorem d_M_drift_179 : decode c_M_drift 179 = .ok (.iinc 6 1, 3) := by decide +kernel
theorem d_M_drift_182 : decode c_M_drift 182 = .ok (.goto (-141), 3) := by decide +kernel
theorem d_M_drift_185 : decode c_M_drift 185 = .ok (.iload_n 2, 1) := by decide +kernel
theorem d_M_drift_186 : decode c_M_drift 186 = .ok (.iconst 3, 1) := by decide +kernel
theorem d_M_drift_187 : decode c_M_drift 187 = .ok (.if_icmp .ge 24, 3) := by decide +kernel
theorem d_M_drift_190 : decode c_M_drift 190 = .ok (.iload_n 2, 1) := by decide +kernel
theorem d_M_drift_191 : decode c_M_drift 191 = .ok (.ifCond .ne 7, 3) := by decide +kernel
theorem d_M_drift_194 : decode c_M_drift 194 = .ok (.iload_n 3, 1) := by decide +kernel
theorem d_M_drift_195 : decode c_M_drift 195 = .ok (.goto 15, 3) := by decide +kernel
theorem d_M_drift_198 : decode c_M_drift 198 = .ok (.iload_n 2, 1) := by decide +kernel
theorem d_M_drift_199 : decode c_M_drift 199 = .ok (.iconst 1, 1) := by decide +kernel
theorem d_M_drift_200 : decode c_M_drift 200 = .ok (.if_icmp .ne 8, 3) := by decide +kernel
theorem d_M_drift_203 : decode c_M_drift 203 = .ok (.iload 4, 2) := by decide +kernel
theorem d_M_drift_205 : decode c_M_drift 205 = .ok (.goto 5, 3) := by decide +kernel
theorem d_M_drift_208 : decode c_M_drift 208 = .ok (.iload 5, 2) := by decide +kernel
theorem d_M_drift_210 : decode c_M_drift 210 = .ok (.ireturn, 1) := by decide +kernel
theorem d_M_drift_211 : decode c_M_drift 211 = .ok (.iload 5, 2) := by decide +kernel
theorem d_M_drift_213 : decode c_M_drift 213 = .ok (.ifCond .ne 20, 3) := by decide +kernel
theorem d_M_drift_216 : decode c_M_drift 216 = .ok (.iload_n 3, 1) := by decide +kernel
theorem d_M_drift_217 : decode c_M_drift 217 = .ok (.ifCond .ne 12, 3) := by decide +kernel
theorem d_M_drift_220 : decode c_M_drift 220 = .ok (.iload 4, 2) := by decide +kernel
theorem d_M_drift_222 : decode c_M_drift 222 = .ok (.ifCond .ne 7, 3) := by decide +kernel
theorem d_M_drift_225 : decode c_M_drift 225 = .ok (.iconst 1, 1) := by decide +kernel
theorem d_M_drift_226 : decode c_M_drift 226 = .ok (.goto 18, 3) := by decide +kernel
theorem d_M_drift_229 : decode c_M_drift 229 = .ok (.iconst (-1), 1) := by decide +kernel
theorem d_M_drift_230 : decode c_M_drift 230 = .ok (.goto 14, 3) := by decide +kernel
theorem d_M_drift_233 : decode c_M_drift 233 = .ok (.iload 5, 2) := by decide +kernel
theorem d_M_drift_235 : decode c_M_drift 235 = .ok (.iconst 2, 1) := by decide +kernel
theorem d_M_drift_236 : decode c_M_drift 236 = .ok (.if_icmp .ne 7, 3) := by decide +kernel
theorem d_M_drift_239 : decode c_M_drift 239 = .ok (.iconst 2, 1) := by decide +kernel
theorem d_M_drift_240 : decode c_M_drift 240 = .ok (.goto 4, 3) := by decide +kernel
theorem d_M_drift_243 : decode c_M_drift 243 = .ok (.iconst 4, 1) := by decide +kernel
theorem d_M_drift_244 : decode c_M_drift 244 = .ok (.ireturn, 1) := by decide +kernel
theorem d_M_come_0 : decode c_M_come 0 = .ok (.aload_n 0, 1) := by decide +kernel
theorem d_M_come_1 : decode c_M_come 1 = .ok (.iconst 0, 1) := by decide +kernel
theorem d_M_come_2 : decode c_M_come 2 = .ok (.putfield 45, 3) := by decide +kernel
theorem d_M_come_5 : decode c_M_come 5 = .ok (.iload_n 1, 1) := by decide +kernel
theorem d_M_come_6 : decode c_M_come 6 = .ok (.iconst 0, 1) := by decide +kernel
theorem d_M_come_7 : decode c_M_come 7 = .ok (.bipush 15, 2) := by decide +kernel
theorem d_M_come_9 : decode c_M_come 9 = .ok (.invokestatic 56, 3) := by decide +kernel
theorem d_M_come_12 : decode c_M_come 12 = .ok (.ifCond .eq 33, 3) := by decide +kernel
theorem d_M_come_15 : decode c_M_come 15 = .ok (.iload_n 2, 1) := by decide +kernel
theorem d_M_come_16 : decode c_M_come 16 = .ok (.iconst 0, 1) := by decide +kernel
theorem d_M_come_17 : decode c_M_come 17 = .ok (.bipush 15, 2) := by decide +kernel
theorem d_M_come_19 : decode c_M_come 19 = .ok (.invokestatic 56, 3) := by decide +kernel
theorem d_M_come_22 : decode c_M_come 22 = .ok (.ifCond .eq 23, 3) := by decide +kernel
theorem d_M_come_25 : decode c_M_come 25 = .ok (.iload_n 3, 1) := by decide +kernel
theorem d_M_come_26 : decode c_M_come 26 = .ok (.iconst 0, 1) := by decide +kernel
theorem d_M_come_27 : decode c_M_come 27 = .ok (.iconst 3, 1) := by decide +kernel
theorem d_M_come_28 : decode c_M_come 28 = .ok (.invokestatic 56, 3) := by decide +kernel
theorem d_M_come_31 : decode c_M_come 31 = .ok (.ifCond .eq 14, 3) := by decide +kernel
theorem d_M_come_34 : decode c_M_come 34 = .ok (.iload 4, 2) := by decide +kernel
theorem d_M_come_36 : decode c_M_come 36 = .ok (.iconst 1, 1) := by decide +kernel
theorem d_M_come_37 : decode c_M_come 37 = .ok (.bipush 9, 2) := by decide +kernel
theorem d_M_come_39 : decode c_M_come 39 = .ok (.invokestatic 56, 3) := by decide +kernel
theorem d_M_come_42 : decode c_M_come 42 = .ok (.ifCond .ne 9, 3) := by decide +kernel
theorem d_M_come_45 : decode c_M_come 45 = .ok (.aload_n 0, 1) := by decide +kernel
theorem d_M_come_46 : decode c_M_come 46 = .ok (.iconst 1, 1) := by decide +kernel
theorem d_M_come_47 : decode c_M_come 47 = .ok (.invokevirtual 52, 3) := by decide +kernel
theorem d_M_come_50 : decode c_M_come 50 = .ok (.ireturn, 1) := by decide +kernel
theorem d_M_come_51 : decode c_M_come 51 = .ok (.aload_n 0, 1) := by decide +kernel
theorem d_M_come_52 : decode c_M_come 52 = .ok (.getfield 24, 3) := by decide +kernel
theorem d_M_come_55 : decode c_M_come 55 = .ok (.iload_n 1, 1) := by decide +kernel
theorem d_M_come_56 : decode c_M_come 56 = .ok (.iload_n 2, 1) := by decide +kernel
theorem d_M_come_57 : decode c_M_come 57 = .ok (.invokevirtual 87, 3) := by decide +kernel
theorem d_M_come_60 : decode c_M_come 60 = .ok (.iconst (-1), 1) := by decide +kernel
theorem d_M_come_61 : decode c_M_come 61 = .ok (.if_icmp .ne 15, 3) := by decide +kernel
theorem d_M_come_64 : decode c_M_come 64 = .ok (.aload_n 0, 1) := by decide +kernel
theorem d_M_come_65 : decode c_M_come 65 = .ok (.getfield 24, 3) := by decide +kernel
theorem d_M_come_68 : decode c_M_come 68 = .ok (.getfield 72, 3) := by decide +kernel
theorem d_M_come_71 : decode c_M_come 71 = .ok (.bipush 8, 2) := by decide +kernel
theorem d_M_come_73 : decode c_M_come 73 = .ok (.if_icmp .ne 9, 3) := by decide +kernel
theorem d_M_come_76 : decode c_M_come 76 = .ok (.aload_n 0, 1) := by decide +kernel
theorem d_M_come_77 : decode c_M_come 77 = .ok (.iconst 2, 1) := by decide +kernel
theorem d_M_come_78 : decode c_M_come 78 = .ok (.invokevirtual 52, 3) := by decide +kernel
theorem d_M_come_81 : decode c_M_come 81 = .ok (.ireturn, 1) := by decide +kernel
theorem d_M_come_82 : decode c_M_come 82 = .ok (.aload_n 0, 1) := by decide +kernel
theorem d_M_come_83 : decode c_M_come 83 = .ok (.getfield 24, 3) := by decide +kernel
theorem d_M_come_86 : decode c_M_come 86 = .ok (.getfield 72, 3) := by decide +kernel
theorem d_M_come_89 : decode c_M_come 89 = .ok (.istore 5, 2) := by decide +kernel
theorem d_M_come_91 : decode c_M_come 91 = .ok (.aload_n 0, 1) := by decide +kernel
theorem d_M_come_92 : decode c_M_come 92 = .ok (.getfield 24, 3) := by decide +kernel
theorem d_M_come_95 : decode c_M_come 95 = .ok (.getfield 91, 3) := by decide +kernel
theorem d_M_come_98 : decode c_M_come 98 = .ok (.iload 5, 2) := by decide +kernel
theorem d_M_come_100 : decode c_M_come 100 = .ok (.iload_n 1, 1) := by decide +kernel
theorem d_M_come_101 : decode c_M_come 101 = .ok (.iastore, 1) := by decide +kernel
theorem d_M_come_102 : decode c_M_come 102 = .ok (.aload_n 0, 1) := by decide +kernel
theorem d_M_come_103 : decode c_M_come 103 = .ok (.getfield 24, 3) := by decide +kernel
theorem d_M_come_106 : decode c_M_come 106 = .ok (.getfield 94, 3) := by decide +kernel
theorem d_M_come_109 : decode c_M_come 109 = .ok (.iload 5, 2) := by decide +kernel
theorem d_M_come_111 : decode c_M_come 111 = .ok (.iload_n 2, 1) := by decide +kernel
theorem d_M_come_112 : decode c_M_come 112 = .ok (.iastore, 1) := by decide +kernel
theorem d_M_come_113 : decode c_M_come 113 = .ok (.aload_n 0, 1) := by decide +kernel
theorem d_M_come_114 : decode c_M_come 114 = .ok (.getfield 24, 3) := by decide +kernel
theorem d_M_come_117 : decode c_M_come 117 = .ok (.getfield 97, 3) := by decide +kernel
theorem d_M_come_120 : decode c_M_come 120 = .ok (.iload 5, 2) := by decide +kernel
theorem d_M_come_122 : decode c_M_come 122 = .ok (.iload_n 3, 1) := by decide +kernel
theorem d_M_come_123 : decode c_M_come 123 = .ok (.iastore, 1) := by decide +kernel
theorem d_M_come_124 : decode c_M_come 124 = .ok (.aload_n 0, 1) := by decide +kernel
theorem d_M_come_125 : decode c_M_come 125 = .ok (.getfield 24, 3) := by decide +kernel
theorem d_M_come_128 : decode c_M_come 128 = .ok (.getfield 100, 3) := by decide +kernel
theorem d_M_come_131 : decode c_M_come 131 = .ok (.iload 5, 2) := by decide +kernel
theorem d_M_come_133 : decode c_M_come 133 = .ok (.iload 4, 2) := by decide +kernel
theorem d_M_come_135 : decode c_M_come 135 = .ok (.iastore, 1) := by decide +kernel
theorem d_M_come_136 : decode c_M_come 136 = .ok (.aload_n 0, 1) := by decide +kernel
theorem d_M_come_137 : decode c_M_come 137 = .ok (.getfield 24, 3) := by decide +kernel
theorem d_M_come_140 : decode c_M_come 140 = .ok (.getfield 103, 3) := by decide +kernel
theorem d_M_come_143 : decode c_M_come 143 = .ok (.iload 5, 2) := by decide +kernel
theorem d_M_come_145 : decode c_M_come 145 = .ok (.bipush 100, 2) := by decide +kernel
theorem d_M_come_147 : decode c_M_come 147 = .ok (.iastore, 1) := by decide +kernel
theorem d_M_come_148 : decode c_M_come 148 = .ok (.aload_n 0, 1) := by decide +kernel
theorem d_M_come_149 : decode c_M_come 149 = .ok (.getfield 24, 3) := by decide +kernel
theorem d_M_come_152 : decode c_M_come 152 = .ok (.getfield 106, 3) := by decide +kernel
theorem d_M_come_155 : decode c_M_come 155 = .ok (.iload 5, 2) := by decide +kernel
theorem d_M_come_157 : decode c_M_come 157 = .ok (.iconst (-1), 1) := by decide +kernel
theorem d_M_come_158 : decode c_M_come 158 = .ok (.iastore, 1) := by decide +kernel
theorem d_M_come_159 : decode c_M_come 159 = .ok (.aload_n 0, 1) := by decide +kernel
theorem d_M_come_160 : decode c_M_come 160 = .ok (.getfield 24, 3) := by decide +kernel
theorem d_M_come_163 : decode c_M_come 163 = .ok (.dup, 1) := by decide +kernel
theorem d_M_come_164 : decode c_M_come 164 = .ok (.getfield 72, 3) := by decide +kernel
theorem d_M_come_167 : decode c_M_come 167 = .ok (.iconst 1, 1) := by decide +kernel
theorem d_M_come_168 : decode c_M_come 168 = .ok (.iadd, 1) := by decide +kernel
theorem d_M_come_169 : decode c_M_come 169 = .ok (.putfield 72, 3) := by decide +kernel
theorem d_M_come_172 : decode c_M_come 172 = .ok (.iload 5, 2) := by decide +kernel
theorem d_M_come_174 : decode c_M_come 174 = .ok (.ireturn, 1) := by decide +kernel
theorem d_M_isDancer_0 : decode c_M_isDancer 0 = .ok (.iload_n 1, 1) := by decide +kernel
theorem d_M_isDancer_1 : decode c_M_isDancer 1 = .ok (.iconst 0, 1) := by decide +kernel
theorem d_M_isDancer_2 : decode c_M_isDancer 2 = .ok (.aload_n 0, 1) := by decide +kernel
theorem d_M_isDancer_3 : decode c_M_isDancer 3 = .ok (.getfield 24, 3) := by decide +kernel
theorem d_M_isDancer_6 : decode c_M_isDancer 6 = .ok (.getfield 72, 3) := by decide +kernel
theorem d_M_isDancer_9 : decode c_M_isDancer 9 = .ok (.iconst 1, 1) := by decide +kernel
theorem d_M_isDancer_10 : decode c_M_isDancer 10 = .ok (.isub, 1) := by decide +kernel
theorem d_M_isDancer_11 : decode c_M_isDancer 11 = .ok (.invokestatic 56, 3) := by decide +kernel
theorem d_M_isDancer_14 : decode c_M_isDancer 14 = .ok (.ireturn, 1) := by decide +kernel
theorem d_M_dance_0 : decode c_M_dance 0 = .ok (.aload_n 0, 1) := by decide +kernel
theorem d_M_dance_1 : decode c_M_dance 1 = .ok (.iconst 0, 1) := by decide +kernel
theorem d_M_dance_2 : decode c_M_dance 2 = .ok (.putfield 45, 3) := by decide +kernel
theorem d_M_dance_5 : decode c_M_dance 5 = .ok (.aload_n 0, 1) := by decide +kernel
theorem d_M_dance_6 : decode c_M_dance 6 = .ok (.iload_n 1, 1) := by decide +kernel
theorem d_M_dance_7 : decode c_M_dance 7 = .ok (.invokevirtual 109, 3) := by decide +kernel
theorem d_M_dance_10 : decode c_M_dance 10 = .ok (.ifCond .eq 13, 3) := by decide +kernel
theorem d_M_dance_13 : decode c_M_dance 13 = .ok (.iload_n 2, 1) := by decide +kernel
theorem d_M_dance_14 : decode c_M_dance 14 = .ok (.iconst 0, 1) := by decide +kernel
theorem d_M_dance_15 : decode c_M_dance 15 = .ok (.bipush 7, 2) := by decide +kernel
theorem d_M_dance_17 : decode c_M_dance 17 = .ok (.invokestatic 56, 3) := by decide +kernel
theorem d_M_dance_20 : decode c_M_dance 20 = .ok (.ifCond .ne 9, 3) := by decide +kernel
theorem d_M_dance_23 : decode c_M_dance 23 = .ok (.aload_n 0, 1) := by decide +kernel
theorem d_M_dance_24 : decode c_M_dance 24 = .ok (.iconst 1, 1) := by decide +kernel
theorem d_M_dance_25 : decode c_M_dance 25 = .ok (.invokevirtual 52, 3) := by decide +kernel
theorem d_M_dance_28 : decode c_M_dance 28 = .ok (.ireturn, 1) := by decide +kernel
theorem d_M_dance_29 : decode c_M_dance 29 = .ok (.aload_n 0, 1) := by decide +kernel
theorem d_M_dance_30 : decode c_M_dance 30 = .ok (.getfield 24, 3) := by decide +kernel
theorem d_M_dance_33 : decode c_M_dance 33 = .ok (.getfield 75, 3) := by decide +kernel
theorem d_M_dance_36 : decode c_M_dance 36 = .ok (.iload_n 1, 1) := by decide +kernel
theorem d_M_dance_37 : decode c_M_dance 37 = .ok (.iaload, 1) := by decide +kernel
theorem d_M_dance_38 : decode c_M_dance 38 = .ok (.istore_n 3, 1) := by decide +kernel
theorem d_M_dance_39 : decode c_M_dance 39 = .ok (.aload_n 0, 1) := by decide +kernel
theorem d_M_dance_40 : decode c_M_dance 40 = .ok (.getfield 24, 3) := by decide +kernel
theorem d_M_dance_43 : decode c_M_dance 43 = .ok (.getfield 75, 3) := by decide +kernel
theorem d_M_dance_46 : decode c_M_dance 46 = .ok (.iload_n 1, 1) := by decide +kernel
theorem d_M_dance_47 : decode c_M_dance 47 = .ok (.iload_n 2, 1) := by decide +kernel
theorem d_M_dance_48 : decode c_M_dance 48 = .ok (.iastore, 1) := by decide +kernel
theorem d_M_dance_49 : decode c_M_dance 49 = .ok (.aload_n 0, 1) := by decide +kernel
theorem d_M_dance_50 : decode c_M_dance 50 = .ok (.getfield 24, 3) := by decide +kernel
theorem d_M_dance_53 : decode c_M_dance 53 = .ok (.getfield 78, 3) := by decide +kernel
theorem d_M_dance_56 : decode c_M_dance 56 = .ok (.iload_n 1, 1) := by decide +kernel
theorem d_M_dance_57 : decode c_M_dance 57 = .ok (.iconst 0, 1) := by decide +kernel
theorem d_M_dance_58 : decode c_M_dance 58 = .ok (.iastore, 1) := by decide +kernel
theorem d_M_dance_59 : decode c_M_dance 59 = .ok (.iload_n 3, 1) := by decide +kernel
theorem d_M_dance_60 : decode c_M_dance 60 = .ok (.ireturn, 1) := by decide +kernel
theorem d_M_pair_0 : decode c_M_pair 0 = .ok (.aload_n 0, 1) := by decide +kernel
theorem d_M_pair_1 : decode c_M_pair 1 = .ok (.iconst 0, 1) := by decide +kernel
theorem d_M_pair_2 : decode c_M_pair 2 = .ok (.putfield 45, 3) := by decide +kernel
theorem d_M_pair_5 : decode c_M_pair 5 = .ok (.aload_n 0, 1) := by decide +kernel
theorem d_M_pair_6 : decode c_M_pair 6 = .ok (.iload_n 1, 1) := by decide +kernel
theorem d_M_pair_7 : decode c_M_pair 7 = .ok (.invokevirtual 109, 3) := by decide +kernel
theorem d_M_pair_10 : decode c_M_pair 10 = .ok (.ifCond .eq 11, 3) := by decide +kernel
theorem d_M_pair_13 : decode c_M_pair 13 = .ok (.aload_n 0, 1) := by decide +kernel
theorem d_M_pair_14 : decode c_M_pair 14 = .ok (.iload_n 2, 1) := by decide +kernel
theorem d_M_pair_15 : decode c_M_pair 15 = .ok (.invokevirtual 109, 3) := by decide +kernel
theorem d_M_pair_18 : decode c_M_pair 18 = .ok (.ifCond .ne 9, 3) := by decide +kernel
theorem d_M_pair_21 : decode c_M_pair 21 = .ok (.aload_n 0, 1) := by decide +kernel
theorem d_M_pair_22 : decode c_M_pair 22 = .ok (.iconst 1, 1) := by decide +kernel
theorem d_M_pair_23 : decode c_M_pair 23 = .ok (.invokevirtual 52, 3) := by decide +kernel
theorem d_M_pair_26 : decode c_M_pair 26 = .ok (.ireturn, 1) := by decide +kernel
theorem d_M_pair_27 : decode c_M_pair 27 = .ok (.iload_n 1, 1) := by decide +kernel
theorem d_M_pair_28 : decode c_M_pair 28 = .ok (.iload_n 2, 1) := by decide +kernel
theorem d_M_pair_29 : decode c_M_pair 29 = .ok (.if_icmp .ne 9, 3) := by decide +kernel
theorem d_M_pair_32 : decode c_M_pair 32 = .ok (.aload_n 0, 1) := by decide +kernel
theorem d_M_pair_33 : decode c_M_pair 33 = .ok (.iconst 2, 1) := by decide +kernel
theorem d_M_pair_34 : decode c_M_pair 34 = .ok (.invokevirtual 52, 3) := by decide +kernel
theorem d_M_pair_37 : decode c_M_pair 37 = .ok (.ireturn, 1) := by decide +kernel
theorem d_M_pair_38 : decode c_M_pair 38 = .ok (.aload_n 0, 1) := by decide +kernel
theorem d_M_pair_39 : decode c_M_pair 39 = .ok (.getfield 24, 3) := by decide +kernel
theorem d_M_pair_42 : decode c_M_pair 42 = .ok (.getfield 106, 3) := by decide +kernel
theorem d_M_pair_45 : decode c_M_pair 45 = .ok (.iload_n 1, 1) := by decide +kernel
theorem d_M_pair_46 : decode c_M_pair 46 = .ok (.iaload, 1) := by decide +kernel
theorem d_M_pair_47 : decode c_M_pair 47 = .ok (.iconst (-1), 1) := by decide +kernel
theorem d_M_pair_48 : decode c_M_pair 48 = .ok (.if_icmp .ne 28, 3) := by decide +kernel
theorem d_M_pair_51 : decode c_M_pair 51 = .ok (.aload_n 0, 1) := by decide +kernel
theorem d_M_pair_52 : decode c_M_pair 52 = .ok (.getfield 24, 3) := by decide +kernel
theorem d_M_pair_55 : decode c_M_pair 55 = .ok (.getfield 106, 3) := by decide +kernel
theorem d_M_pair_58 : decode c_M_pair 58 = .ok (.iload_n 2, 1) := by decide +kernel
theorem d_M_pair_59 : decode c_M_pair 59 = .ok (.iaload, 1) := by decide +kernel
theorem d_M_pair_60 : decode c_M_pair 60 = .ok (.iconst (-1), 1) := by decide +kernel
theorem d_M_pair_61 : decode c_M_pair 61 = .ok (.if_icmp .ne 15, 3) := by decide +kernel
theorem d_M_pair_64 : decode c_M_pair 64 = .ok (.aload_n 0, 1) := by decide +kernel
theorem d_M_pair_65 : decode c_M_pair 65 = .ok (.getfield 24, 3) := by decide +kernel
theorem d_M_pair_68 : decode c_M_pair 68 = .ok (.iload_n 1, 1) := by decide +kernel
theorem d_M_pair_69 : decode c_M_pair 69 = .ok (.iload_n 2, 1) := by decide +kernel
theorem d_M_pair_70 : decode c_M_pair 70 = .ok (.invokevirtual 112, 3) := by decide +kernel
theorem d_M_pair_73 : decode c_M_pair 73 = .ok (.ifCond .ne 9, 3) := by decide +kernel
theorem d_M_pair_76 : decode c_M_pair 76 = .ok (.aload_n 0, 1) := by decide +kernel
theorem d_M_pair_77 : decode c_M_pair 77 = .ok (.iconst 3, 1) := by decide +kernel
theorem d_M_pair_78 : decode c_M_pair 78 = .ok (.invokevirtual 52, 3) := by decide +kernel
theorem d_M_pair_81 : decode c_M_pair 81 = .ok (.ireturn, 1) := by decide +kernel
theorem d_M_pair_82 : decode c_M_pair 82 = .ok (.aload_n 0, 1) := by decide +kernel
theorem d_M_pair_83 : decode c_M_pair 83 = .ok (.getfield 24, 3) := by decide +kernel
theorem d_M_pair_86 : decode c_M_pair 86 = .ok (.getfield 106, 3) := by decide +kernel
theorem d_M_pair_89 : decode c_M_pair 89 = .ok (.iload_n 1, 1) := by decide +kernel
theorem d_M_pair_90 : decode c_M_pair 90 = .ok (.iload_n 2, 1) := by decide +kernel
theorem d_M_pair_91 : decode c_M_pair 91 = .ok (.iastore, 1) := by decide +kernel
theorem d_M_pair_92 : decode c_M_pair 92 = .ok (.aload_n 0, 1) := by decide +kernel
theorem d_M_pair_93 : decode c_M_pair 93 = .ok (.getfield 24, 3) := by decide +kernel
theorem d_M_pair_96 : decode c_M_pair 96 = .ok (.getfield 106, 3) := by decide +kernel
theorem d_M_pair_99 : decode c_M_pair 99 = .ok (.iload_n 2, 1) := by decide +kernel
theorem d_M_pair_100 : decode c_M_pair 100 = .ok (.iload_n 1, 1) := by decide +kernel
theorem d_M_pair_101 : decode c_M_pair 101 = .ok (.iastore, 1) := by decide +kernel
theorem d_M_pair_102 : decode c_M_pair 102 = .ok (.aload_n 0, 1) := by decide +kernel
theorem d_M_pair_103 : decode c_M_pair 103 = .ok (.getfield 24, 3) := by decide +kernel
theorem d_M_pair_106 : decode c_M_pair 106 = .ok (.getfield 116, 3) := by decide +kernel
theorem d_M_pair_109 : decode c_M_pair 109 = .ok (.iload_n 2, 1) := by decide +kernel
theorem d_M_pair_110 : decode c_M_pair 110 = .ok (.iconst 1, 1) := by decide +kernel
theorem d_M_pair_111 : decode c_M_pair 111 = .ok (.bastore, 1) := by decide +kernel
theorem d_M_pair_112 : decode c_M_pair 112 = .ok (.aload_n 0, 1) := by decide +kernel
theorem d_M_pair_113 : decode c_M_pair 113 = .ok (.getfield 24, 3) := by decide +kernel
theorem d_M_pair_116 : decode c_M_pair 116 = .ok (.iconst 2, 1) := by decide +kernel
theorem d_M_pair_117 : decode c_M_pair 117 = .ok (.invokevirtual 120, 3) := by decide +kernel
theorem d_M_pair_120 : decode c_M_pair 120 = .ok (.ireturn, 1) := by decide +kernel
theorem d_M_part_0 : decode c_M_part 0 = .ok (.aload_n 0, 1) := by decide +kernel
theorem d_M_part_1 : decode c_M_part 1 = .ok (.iconst 0, 1) := by decide +kernel
theorem d_M_part_2 : decode c_M_part 2 = .ok (.putfield 45, 3) := by decide +kernel
theorem d_M_part_5 : decode c_M_part 5 = .ok (.aload_n 0, 1) := by decide +kernel
theorem d_M_part_6 : decode c_M_part 6 = .ok (.iload_n 1, 1) := by decide +kernel
theorem d_M_part_7 : decode c_M_part 7 = .ok (.invokevirtual 109, 3) := by decide +kernel
theorem d_M_part_10 : decode c_M_part 10 = .ok (.ifCond .ne 9, 3) := by decide +kernel
theorem d_M_part_13 : decode c_M_part 13 = .ok (.aload_n 0, 1) := by decide +kernel
theorem d_M_part_14 : decode c_M_part 14 = .ok (.iconst 1, 1) := by decide +kernel
theorem d_M_part_15 : decode c_M_part 15 = .ok (.invokevirtual 52, 3) := by decide +kernel
theorem d_M_part_18 : decode c_M_part 18 = .ok (.ireturn, 1) := by decide +kernel
theorem d_M_part_19 : decode c_M_part 19 = .ok (.aload_n 0, 1) := by decide +kernel
theorem d_M_part_20 : decode c_M_part 20 = .ok (.getfield 24, 3) := by decide +kernel
theorem d_M_part_23 : decode c_M_part 23 = .ok (.getfield 106, 3) := by decide +kernel
theorem d_M_part_26 : decode c_M_part 26 = .ok (.iload_n 1, 1) := by decide +kernel
theorem d_M_part_27 : decode c_M_part 27 = .ok (.iaload, 1) := by decide +kernel
theorem d_M_part_28 : decode c_M_part 28 = .ok (.istore_n 2, 1) := by decide +kernel
theorem d_M_part_29 : decode c_M_part 29 = .ok (.iload_n 2, 1) := by decide +kernel
theorem d_M_part_30 : decode c_M_part 30 = .ok (.iconst (-1), 1) := by decide +kernel
theorem d_M_part_31 : decode c_M_part 31 = .ok (.if_icmp .ne 9, 3) := by decide +kernel
theorem d_M_part_34 : decode c_M_part 34 = .ok (.aload_n 0, 1) := by decide +kernel
theorem d_M_part_35 : decode c_M_part 35 = .ok (.iconst 2, 1) := by decide +kernel
theorem d_M_part_36 : decode c_M_part 36 = .ok (.invokevirtual 52, 3) := by decide +kernel
theorem d_M_part_39 : decode c_M_part 39 = .ok (.ireturn, 1) := by decide +kernel
theorem d_M_part_40 : decode c_M_part 40 = .ok (.iconst 2, 1) := by decide +kernel
theorem d_M_part_41 : decode c_M_part 41 = .ok (.newarray .int, 2) := by decide +kernel
theorem d_M_part_43 : decode c_M_part 43 = .ok (.dup, 1) := by decide +kernel
theorem d_M_part_44 : decode c_M_part 44 = .ok (.iconst 0, 1) := by decide +kernel
theorem d_M_part_45 : decode c_M_part 45 = .ok (.iload_n 1, 1) := by decide +kernel
theorem d_M_part_46 : decode c_M_part 46 = .ok (.iastore, 1) := by decide +kernel
theorem d_M_part_47 : decode c_M_part 47 = .ok (.dup, 1) := by decide +kernel
theorem d_M_part_48 : decode c_M_part 48 = .ok (.iconst 1, 1) := by decide +kernel
theorem d_M_part_49 : decode c_M_part 49 = .ok (.iload_n 2, 1) := by decide +kernel
theorem d_M_part_50 : decode c_M_part 50 = .ok (.iastore, 1) := by decide +kernel
theorem d_M_part_51 : decode c_M_part 51 = .ok (.astore_n 3, 1) := by decide +kernel
theorem d_M_part_52 : decode c_M_part 52 = .ok (.aload_n 3, 1) := by decide +kernel
theorem d_M_part_53 : decode c_M_part 53 = .ok (.astore 4, 2) := by decide +kernel
theorem d_M_part_55 : decode c_M_part 55 = .ok (.aload 4, 2) := by decide +kernel
theorem d_M_part_57 : decode c_M_part 57 = .ok (.arraylength, 1) := by decide +kernel
theorem d_M_part_58 : decode c_M_part 58 = .ok (.istore 5, 2) := by decide +kernel
theorem d_M_part_60 : decode c_M_part 60 = .ok (.iconst 0, 1) := by decide +kernel
theorem d_M_part_61 : decode c_M_part 61 = .ok (.istore 6, 2) := by decide +kernel
theorem d_M_part_63 : decode c_M_part 63 = .ok (.iload 6, 2) := by decide +kernel
theorem d_M_part_65 : decode c_M_part 65 = .ok (.iload 5, 2) := by decide +kernel
theorem d_M_part_67 : decode c_M_part 67 = .ok (.if_icmp .ge 38, 3) := by decide +kernel
theorem d_M_part_70 : decode c_M_part 70 = .ok (.aload 4, 2) := by decide +kernel
theorem d_M_part_72 : decode c_M_part 72 = .ok (.iload 6, 2) := by decide +kernel
theorem d_M_part_74 : decode c_M_part 74 = .ok (.iaload, 1) := by decide +kernel
theorem d_M_part_75 : decode c_M_part 75 = .ok (.istore 7, 2) := by decide +kernel
theorem d_M_part_77 : decode c_M_part 77 = .ok (.aload_n 0, 1) := by decide +kernel
theorem d_M_part_78 : decode c_M_part 78 = .ok (.getfield 24, 3) := by decide +kernel
theorem d_M_part_81 : decode c_M_part 81 = .ok (.getfield 106, 3) := by decide +kernel
theorem d_M_part_84 : decode c_M_part 84 = .ok (.iload 7, 2) := by decide +kernel
theorem d_M_part_86 : decode c_M_part 86 = .ok (.iconst (-1), 1) := by decide +kernel
theorem d_M_part_87 : decode c_M_part 87 = .ok (.iastore, 1) := by decide +kernel
theorem d_M_part_88 : decode c_M_part 88 = .ok (.aload_n 0, 1) := by decide +kernel
theorem d_M_part_89 : decode c_M_part 89 = .ok (.getfield 24, 3) := by decide +kernel
theorem d_M_part_92 : decode c_M_part 92 = .ok (.getfield 116, 3) := by decide +kernel
theorem d_M_part_95 : decode c_M_part 95 = .ok (.iload 7, 2) := by decide +kernel
theorem d_M_part_97 : decode c_M_part 97 = .ok (.iconst 0, 1) := by decide +kernel
theorem d_M_part_98 : decode c_M_part 98 = .ok (.bastore, 1) := by decide +kernel
theorem d_M_part_99 : decode c_M_part 99 = .ok (.iinc 6 1, 3) := by decide +kernel
theorem d_M_part_102 : decode c_M_part 102 = .ok (.goto (-39), 3) := by decide +kernel
theorem d_M_part_105 : decode c_M_part 105 = .ok (.iload_n 2, 1) := by decide +kernel
theorem d_M_part_106 : decode c_M_part 106 = .ok (.ireturn, 1) := by decide +kernel
theorem d_M_wind_0 : decode c_M_wind 0 = .ok (.aload_n 0, 1) := by decide +kernel
theorem d_M_wind_1 : decode c_M_wind 1 = .ok (.iconst 0, 1) := by decide +kernel
theorem d_M_wind_2 : decode c_M_wind 2 = .ok (.putfield 45, 3) := by decide +kernel
theorem d_M_wind_5 : decode c_M_wind 5 = .ok (.aload_n 0, 1) := by decide +kernel
theorem d_M_wind_6 : decode c_M_wind 6 = .ok (.iload_n 1, 1) := by decide +kernel
theorem d_M_wind_7 : decode c_M_wind 7 = .ok (.invokevirtual 109, 3) := by decide +kernel
theorem d_M_wind_10 : decode c_M_wind 10 = .ok (.ifCond .ne 9, 3) := by decide +kernel
theorem d_M_wind_13 : decode c_M_wind 13 = .ok (.aload_n 0, 1) := by decide +kernel
theorem d_M_wind_14 : decode c_M_wind 14 = .ok (.iconst 1, 1) := by decide +kernel
theorem d_M_wind_15 : decode c_M_wind 15 = .ok (.invokevirtual 52, 3) := by decide +kernel
theorem d_M_wind_18 : decode c_M_wind 18 = .ok (.ireturn, 1) := by decide +kernel
theorem d_M_wind_19 : decode c_M_wind 19 = .ok (.iload_n 2, 1) := by decide +kernel
theorem d_M_wind_20 : decode c_M_wind 20 = .ok (.sipush (-200), 3) := by decide +kernel
theorem d_M_wind_23 : decode c_M_wind 23 = .ok (.sipush 200, 3) := by decide +kernel
theorem d_M_wind_26 : decode c_M_wind 26 = .ok (.invokestatic 56, 3) := by decide +kernel
theorem d_M_wind_29 : decode c_M_wind 29 = .ok (.ifCond .ne 9, 3) := by decide +kernel
theorem d_M_wind_32 : decode c_M_wind 32 = .ok (.aload_n 0, 1) := by decide +kernel
theorem d_M_wind_33 : decode c_M_wind 33 = .ok (.iconst 2, 1) := by decide +kernel
theorem d_M_wind_34 : decode c_M_wind 34 = .ok (.invokevirtual 52, 3) := by decide +kernel
theorem d_M_wind_37 : decode c_M_wind 37 = .ok (.ireturn, 1) := by decide +kernel
theorem d_M_wind_38 : decode c_M_wind 38 = .ok (.aload_n 0, 1) := by decide +kernel
theorem d_M_wind_39 : decode c_M_wind 39 = .ok (.getfield 24, 3) := by decide +kernel
theorem d_M_wind_42 : decode c_M_wind 42 = .ok (.getfield 103, 3) := by decide +kernel
theorem d_M_wind_45 : decode c_M_wind 45 = .ok (.iload_n 1, 1) := by decide +kernel
theorem d_M_wind_46 : decode c_M_wind 46 = .ok (.iconst 0, 1) := by decide +kernel
theorem d_M_wind_47 : decode c_M_wind 47 = .ok (.sipush 200, 3) := by decide +kernel
theorem d_M_wind_50 : decode c_M_wind 50 = .ok (.aload_n 0, 1) := by decide +kernel
theorem d_M_wind_51 : decode c_M_wind 51 = .ok (.getfield 24, 3) := by decide +kernel
theorem d_M_wind_54 : decode c_M_wind 54 = .ok (.getfield 103, 3) := by decide +kernel
theorem d_M_wind_57 : decode c_M_wind 57 = .ok (.iload_n 1, 1) := by decide +kernel
theorem d_M_wind_58 : decode c_M_wind 58 = .ok (.iaload, 1) := by decide +kernel
theorem d_M_wind_59 : decode c_M_wind 59 = .ok (.iload_n 2, 1) := by decide +kernel
theorem d_M_wind_60 : decode c_M_wind 60 = .ok (.iadd, 1) := by decide +kernel
theorem d_M_wind_61 : decode c_M_wind 61 = .ok (.invokestatic 123, 3) := by decide +kernel
theorem d_M_wind_64 : decode c_M_wind 64 = .ok (.invokestatic 128, 3) := by decide +kernel
theorem d_M_wind_67 : decode c_M_wind 67 = .ok (.iastore, 1) := by decide +kernel
theorem d_M_wind_68 : decode c_M_wind 68 = .ok (.aload_n 0, 1) := by decide +kernel
theorem d_M_wind_69 : decode c_M_wind 69 = .ok (.getfield 24, 3) := by decide +kernel
theorem d_M_wind_72 : decode c_M_wind 72 = .ok (.getfield 103, 3) := by decide +kernel
theorem d_M_wind_75 : decode c_M_wind 75 = .ok (.iload_n 1, 1) := by decide +kernel
theorem d_M_wind_76 : decode c_M_wind 76 = .ok (.iaload, 1) := by decide +kernel
theorem d_M_wind_77 : decode c_M_wind 77 = .ok (.ireturn, 1) := by decide +kernel
theorem d_M_dancerTold_0 : decode c_M_dancerTold 0 = .ok (.bipush 12, 2) := by decide +kernel
theorem d_M_dancerTold_2 : decode c_M_dancerTold 2 = .ok (.newarray .int, 2) := by decide +kernel
theorem d_M_dancerTold_4 : decode c_M_dancerTold 4 = .ok (.dup, 1) := by decide +kernel
theorem d_M_dancerTold_5 : decode c_M_dancerTold 5 = .ok (.iconst 0, 1) := by decide +kernel
theorem d_M_dancerTold_6 : decode c_M_dancerTold 6 = .ok (.aload_n 0, 1) := by decide +kernel
theorem d_M_dancerTold_7 : decode c_M_dancerTold 7 = .ok (.getfield 24, 3) := by decide +kernel
theorem d_M_dancerTold_10 : decode c_M_dancerTold 10 = .ok (.getfield 91, 3) := by decide +kernel
theorem d_M_dancerTold_13 : decode c_M_dancerTold 13 = .ok (.iload_n 1, 1) := by decide +kernel
theorem d_M_dancerTold_14 : decode c_M_dancerTold 14 = .ok (.iaload, 1) := by decide +kernel
theorem d_M_dancerTold_15 : decode c_M_dancerTold 15 = .ok (.iastore, 1) := by decide +kernel
theorem d_M_dancerTold_16 : decode c_M_dancerTold 16 = .ok (.dup, 1) := by decide +kernel
theorem d_M_dancerTold_17 : decode c_M_dancerTold 17 = .ok (.iconst 1, 1) := by decide +kernel
theorem d_M_dancerTold_18 : decode c_M_dancerTold 18 = .ok (.aload_n 0, 1) := by decide +kernel
theorem d_M_dancerTold_19 : decode c_M_dancerTold 19 = .ok (.getfield 24, 3) := by decide +kernel
theorem d_M_dancerTold_22 : decode c_M_dancerTold 22 = .ok (.getfield 94, 3) := by decide +kernel
theorem d_M_dancerTold_25 : decode c_M_dancerTold 25 = .ok (.iload_n 1, 1) := by decide +kernel
theorem d_M_dancerTold_26 : decode c_M_dancerTold 26 = .ok (.iaload, 1) := by decide +kernel
theorem d_M_dancerTold_27 : decode c_M_dancerTold 27 = .ok (.iastore, 1) := by decide +kernel
theorem d_M_dancerTold_28 : decode c_M_dancerTold 28 = .ok (.dup, 1) := by decide +kernel
theorem d_M_dancerTold_29 : decode c_M_dancerTold 29 = .ok (.iconst 2, 1) := by decide +kernel
theorem d_M_dancerTold_30 : decode c_M_dancerTold 30 = .ok (.aload_n 0, 1) := by decide +kernel
theorem d_M_dancerTold_31 : decode c_M_dancerTold 31 = .ok (.getfield 24, 3) := by decide +kernel
theorem d_M_dancerTold_34 : decode c_M_dancerTold 34 = .ok (.getfield 97, 3) := by decide +kernel
theorem d_M_dancerTold_37 : decode c_M_dancerTold 37 = .ok (.iload_n 1, 1) := by decide +kernel
theorem d_M_dancerTold_38 : decode c_M_dancerTold 38 = .ok (.iaload, 1) := by decide +kernel
theorem d_M_dancerTold_39 : decode c_M_dancerTold 39 = .ok (.iastore, 1) := by decide +kernel
theorem d_M_dancerTold_40 : decode c_M_dancerTold 40 = .ok (.dup, 1) := by decide +kernel
theorem d_M_dancerTold_41 : decode c_M_dancerTold 41 = .ok (.iconst 3, 1) := by decide +kernel
theorem d_M_dancerTold_42 : decode c_M_dancerTold 42 = .ok (.aload_n 0, 1) := by decide +kernel
theorem d_M_dancerTold_43 : decode c_M_dancerTold 43 = .ok (.getfield 24, 3) := by decide +kernel
theorem d_M_dancerTold_46 : decode c_M_dancerTold 46 = .ok (.getfield 103, 3) := by decide +kernel
theorem d_M_dancerTold_49 : decode c_M_dancerTold 49 = .ok (.iload_n 1, 1) := by decide +kernel
theorem d_M_dancerTold_50 : decode c_M_dancerTold 50 = .ok (.iaload, 1) := by decide +kernel
theorem d_M_dancerTold_51 : decode c_M_dancerTold 51 = .ok (.iastore, 1) := by decide +kernel
theorem d_M_dancerTold_52 : decode c_M_dancerTold 52 = .ok (.dup, 1) := by decide +kernel
theorem d_M_dancerTold_53 : decode c_M_dancerTold 53 = .ok (.iconst 4, 1) := by decide +kernel
theorem d_M_dancerTold_54 : decode c_M_dancerTold 54 = .ok (.aload_n 0, 1) := by decide +kernel
theorem d_M_dancerTold_55 : decode c_M_dancerTold 55 = .ok (.getfield 24, 3) := by decide +kernel
theorem d_M_dancerTold_58 : decode c_M_dancerTold 58 = .ok (.getfield 100, 3) := by decide +kernel
theorem d_M_dancerTold_61 : decode c_M_dancerTold 61 = .ok (.iload_n 1, 1) := by decide +kernel
theorem d_M_dancerTold_62 : decode c_M_dancerTold 62 = .ok (.iaload, 1) := by decide +kernel
theorem d_M_dancerTold_63 : decode c_M_dancerTold 63 = .ok (.iastore, 1) := by decide +kernel
theorem d_M_dancerTold_64 : decode c_M_dancerTold 64 = .ok (.dup, 1) := by decide +kernel
theorem d_M_dancerTold_65 : decode c_M_dancerTold 65 = .ok (.iconst 5, 1) := by decide +kernel
theorem d_M_dancerTold_66 : decode c_M_dancerTold 66 = .ok (.aload_n 0, 1) := by decide +kernel
theorem d_M_dancerTold_67 : decode c_M_dancerTold 67 = .ok (.getfield 24, 3) := by decide +kernel
theorem d_M_dancerTold_70 : decode c_M_dancerTold 70 = .ok (.getfield 75, 3) := by decide +kernel
theorem d_M_dancerTold_73 : decode c_M_dancerTold 73 = .ok (.iload_n 1, 1) := by decide +kernel
theorem d_M_dancerTold_74 : decode c_M_dancerTold 74 = .ok (.iaload, 1) := by decide +kernel
theorem d_M_dancerTold_75 : decode c_M_dancerTold 75 = .ok (.iastore, 1) := by decide +kernel
theorem d_M_dancerTold_76 : decode c_M_dancerTold 76 = .ok (.dup, 1) := by decide +kernel
theorem d_M_dancerTold_77 : decode c_M_dancerTold 77 = .ok (.bipush 6, 2) := by decide +kernel
theorem d_M_dancerTold_79 : decode c_M_dancerTold 79 = .ok (.aload_n 0, 1) := by decide +kernel
theorem d_M_dancerTold_80 : decode c_M_dancerTold 80 = .ok (.getfield 24, 3) := by decide +kernel
theorem d_M_dancerTold_83 : decode c_M_dancerTold 83 = .ok (.getfield 78, 3) := by decide +kernel
theorem d_M_dancerTold_86 : decode c_M_dancerTold 86 = .ok (.iload_n 1, 1) := by decide +kernel
theorem d_M_dancerTold_87 : decode c_M_dancerTold 87 = .ok (.iaload, 1) := by decide +kernel
theorem d_M_dancerTold_88 : decode c_M_dancerTold 88 = .ok (.iastore, 1) := by decide +kernel
theorem d_M_dancerTold_89 : decode c_M_dancerTold 89 = .ok (.dup, 1) := by decide +kernel
theorem d_M_dancerTold_90 : decode c_M_dancerTold 90 = .ok (.bipush 7, 2) := by decide +kernel
theorem d_M_dancerTold_92 : decode c_M_dancerTold 92 = .ok (.aload_n 0, 1) := by decide +kernel
theorem d_M_dancerTold_93 : decode c_M_dancerTold 93 = .ok (.getfield 24, 3) := by decide +kernel
theorem d_M_dancerTold_96 : decode c_M_dancerTold 96 = .ok (.getfield 106, 3) := by decide +kernel
theorem d_M_dancerTold_99 : decode c_M_dancerTold 99 = .ok (.iload_n 1, 1) := by decide +kernel
theorem d_M_dancerTold_100 : decode c_M_dancerTold 100 = .ok (.iaload, 1) := by decide +kernel
theorem d_M_dancerTold_101 : decode c_M_dancerTold 101 = .ok (.iastore, 1) := by decide +kernel
theorem d_M_dancerTold_102 : decode c_M_dancerTold 102 = .ok (.dup, 1) := by decide +kernel
theorem d_M_dancerTold_103 : decode c_M_dancerTold 103 = .ok (.bipush 8, 2) := by decide +kernel
theorem d_M_dancerTold_105 : decode c_M_dancerTold 105 = .ok (.aload_n 0, 1) := by decide +kernel
theorem d_M_dancerTold_106 : decode c_M_dancerTold 106 = .ok (.getfield 24, 3) := by decide +kernel
theorem d_M_dancerTold_109 : decode c_M_dancerTold 109 = .ok (.getfield 116, 3) := by decide +kernel
theorem d_M_dancerTold_112 : decode c_M_dancerTold 112 = .ok (.iload_n 1, 1) := by decide +kernel
theorem d_M_dancerTold_113 : decode c_M_dancerTold 113 = .ok (.baload, 1) := by decide +kernel
theorem d_M_dancerTold_114 : decode c_M_dancerTold 114 = .ok (.ifCond .eq 7, 3) := by decide +kernel
theorem d_M_dancerTold_117 : decode c_M_dancerTold 117 = .ok (.iconst 1, 1) := by decide +kernel
theorem d_M_dancerTold_118 : decode c_M_dancerTold 118 = .ok (.goto 4, 3) := by decide +kernel
theorem d_M_dancerTold_121 : decode c_M_dancerTold 121 = .ok (.iconst 0, 1) := by decide +kernel
theorem d_M_dancerTold_122 : decode c_M_dancerTold 122 = .ok (.iastore, 1) := by decide +kernel
theorem d_M_dancerTold_123 : decode c_M_dancerTold 123 = .ok (.dup, 1) := by decide +kernel
theorem d_M_dancerTold_124 : decode c_M_dancerTold 124 = .ok (.bipush 9, 2) := by decide +kernel
theorem d_M_dancerTold_126 : decode c_M_dancerTold 126 = .ok (.aload_n 0, 1) := by decide +kernel
theorem d_M_dancerTold_127 : decode c_M_dancerTold 127 = .ok (.getfield 24, 3) := by decide +kernel
theorem d_M_dancerTold_130 : decode c_M_dancerTold 130 = .ok (.getfield 131, 3) := by decide +kernel
theorem d_M_dancerTold_133 : decode c_M_dancerTold 133 = .ok (.iload_n 1, 1) := by decide +kernel
theorem d_M_dancerTold_134 : decode c_M_dancerTold 134 = .ok (.iaload, 1) := by decide +kernel
theorem d_M_dancerTold_135 : decode c_M_dancerTold 135 = .ok (.iastore, 1) := by decide +kernel
theorem d_M_dancerTold_136 : decode c_M_dancerTold 136 = .ok (.dup, 1) := by decide +kernel
theorem d_M_dancerTold_137 : decode c_M_dancerTold 137 = .ok (.bipush 10, 2) := by decide +kernel
theorem d_M_dancerTold_139 : decode c_M_dancerTold 139 = .ok (.aload_n 0, 1) := by decide +kernel
theorem d_M_dancerTold_140 : decode c_M_dancerTold 140 = .ok (.getfield 24, 3) := by decide +kernel
theorem d_M_dancerTold_143 : decode c_M_dancerTold 143 = .ok (.getfield 134, 3) := by decide +kernel
theorem d_M_dancerTold_146 : decode c_M_dancerTold 146 = .ok (.iload_n 1, 1) := by decide +kernel
theorem d_M_dancerTold_147 : decode c_M_dancerTold 147 = .ok (.iaload, 1) := by decide +kernel
theorem d_M_dancerTold_148 : decode c_M_dancerTold 148 = .ok (.iastore, 1) := by decide +kernel
theorem d_M_dancerTold_149 : decode c_M_dancerTold 149 = .ok (.dup, 1) := by decide +kernel
theorem d_M_dancerTold_150 : decode c_M_dancerTold 150 = .ok (.bipush 11, 2) := by decide +kernel
theorem d_M_dancerTold_152 : decode c_M_dancerTold 152 = .ok (.aload_n 0, 1) := by decide +kernel
theorem d_M_dancerTold_153 : decode c_M_dancerTold 153 = .ok (.getfield 24, 3) := by decide +kernel
theorem d_M_dancerTold_156 : decode c_M_dancerTold 156 = .ok (.getfield 137, 3) := by decide +kernel
theorem d_M_dancerTold_159 : decode c_M_dancerTold 159 = .ok (.iload_n 1, 1) := by decide +kernel
theorem d_M_dancerTold_160 : decode c_M_dancerTold 160 = .ok (.iaload, 1) := by decide +kernel
theorem d_M_dancerTold_161 : decode c_M_dancerTold 161 = .ok (.iastore, 1) := by decide +kernel
theorem d_M_dancerTold_162 : decode c_M_dancerTold 162 = .ok (.astore_n 3, 1) := by decide +kernel
theorem d_M_dancerTold_163 : decode c_M_dancerTold 163 = .ok (.aload_n 3, 1) := by decide +kernel
theorem d_M_dancerTold_164 : decode c_M_dancerTold 164 = .ok (.iload_n 2, 1) := by decide +kernel
theorem d_M_dancerTold_165 : decode c_M_dancerTold 165 = .ok (.iaload, 1) := by decide +kernel
theorem d_M_dancerTold_166 : decode c_M_dancerTold 166 = .ok (.ireturn, 1) := by decide +kernel
theorem d_M_dancer_0 : decode c_M_dancer 0 = .ok (.aload_n 0, 1) := by decide +kernel
theorem d_M_dancer_1 : decode c_M_dancer 1 = .ok (.iconst 0, 1) := by decide +kernel
theorem d_M_dancer_2 : decode c_M_dancer 2 = .ok (.putfield 45, 3) := by decide +kernel
theorem d_M_dancer_5 : decode c_M_dancer 5 = .ok (.aload_n 0, 1) := by decide +kernel
theorem d_M_dancer_6 : decode c_M_dancer 6 = .ok (.iload_n 1, 1) := by decide +kernel
theorem d_M_dancer_7 : decode c_M_dancer 7 = .ok (.invokevirtual 109, 3) := by decide +kernel
theorem d_M_dancer_10 : decode c_M_dancer 10 = .ok (.ifCond .eq 22, 3) := by decide +kernel
theorem d_M_dancer_13 : decode c_M_dancer 13 = .ok (.iload_n 2, 1) := by decide +kernel
theorem d_M_dancer_14 : decode c_M_dancer 14 = .ok (.iconst 0, 1) := by decide +kernel
theorem d_M_dancer_15 : decode c_M_dancer 15 = .ok (.bipush 11, 2) := by decide +kernel
theorem d_M_dancer_17 : decode c_M_dancer 17 = .ok (.invokestatic 56, 3) := by decide +kernel
theorem d_M_dancer_20 : decode c_M_dancer 20 = .ok (.ifCond .eq 12, 3) := by decide +kernel
theorem d_M_dancer_23 : decode c_M_dancer 23 = .ok (.aload_n 0, 1) := by decide +kernel
theorem d_M_dancer_24 : decode c_M_dancer 24 = .ok (.iload_n 1, 1) := by decide +kernel
theorem d_M_dancer_25 : decode c_M_dancer 25 = .ok (.iload_n 2, 1) := by decide +kernel
theorem d_M_dancer_26 : decode c_M_dancer 26 = .ok (.invokevirtual 140, 3) := by decide +kernel
theorem d_M_dancer_29 : decode c_M_dancer 29 = .ok (.goto 8, 3) := by decide +kernel
theorem d_M_dancer_32 : decode c_M_dancer 32 = .ok (.aload_n 0, 1) := by decide +kernel
theorem d_M_dancer_33 : decode c_M_dancer 33 = .ok (.iconst 1, 1) := by decide +kernel
theorem d_M_dancer_34 : decode c_M_dancer 34 = .ok (.invokevirtual 52, 3) := by decide +kernel
theorem d_M_dancer_37 : decode c_M_dancer 37 = .ok (.ireturn, 1) := by decide +kernel
theorem d_M_at_0 : decode c_M_at 0 = .ok (.aload_n 0, 1) := by decide +kernel
theorem d_M_at_1 : decode c_M_at 1 = .ok (.iconst 0, 1) := by decide +kernel
theorem d_M_at_2 : decode c_M_at 2 = .ok (.putfield 45, 3) := by decide +kernel
theorem d_M_at_5 : decode c_M_at 5 = .ok (.iload_n 1, 1) := by decide +kernel
theorem d_M_at_6 : decode c_M_at 6 = .ok (.iconst 0, 1) := by decide +kernel
theorem d_M_at_7 : decode c_M_at 7 = .ok (.bipush 15, 2) := by decide +kernel
theorem d_M_at_9 : decode c_M_at 9 = .ok (.invokestatic 56, 3) := by decide +kernel
theorem d_M_at_12 : decode c_M_at 12 = .ok (.ifCond .eq 25, 3) := by decide +kernel
theorem d_M_at_15 : decode c_M_at 15 = .ok (.iload_n 2, 1) := by decide +kernel
theorem d_M_at_16 : decode c_M_at 16 = .ok (.iconst 0, 1) := by decide +kernel
theorem d_M_at_17 : decode c_M_at 17 = .ok (.bipush 15, 2) := by decide +kernel
theorem d_M_at_19 : decode c_M_at 19 = .ok (.invokestatic 56, 3) := by decide +kernel
theorem d_M_at_22 : decode c_M_at 22 = .ok (.ifCond .eq 15, 3) := by decide +kernel
theorem d_M_at_25 : decode c_M_at 25 = .ok (.aload_n 0, 1) := by decide +kernel
theorem d_M_at_26 : decode c_M_at 26 = .ok (.getfield 24, 3) := by decide +kernel
theorem d_M_at_29 : decode c_M_at 29 = .ok (.iload_n 1, 1) := by decide +kernel
theorem d_M_at_30 : decode c_M_at 30 = .ok (.iload_n 2, 1) := by decide +kernel
theorem d_M_at_31 : decode c_M_at 31 = .ok (.invokevirtual 87, 3) := by decide +kernel
theorem d_M_at_34 : decode c_M_at 34 = .ok (.goto 8, 3) := by decide +kernel
theorem d_M_at_37 : decode c_M_at 37 = .ok (.aload_n 0, 1) := by decide +kernel
theorem d_M_at_38 : decode c_M_at 38 = .ok (.iconst 1, 1) := by decide +kernel
theorem d_M_at_39 : decode c_M_at 39 = .ok (.invokevirtual 52, 3) := by decide +kernel
theorem d_M_at_42 : decode c_M_at 42 = .ok (.ireturn, 1) := by decide +kernel
theorem d_M_addWinder_0 : decode c_M_addWinder 0 = .ok (.aload_n 0, 1) := by decide +kernel
theorem d_M_addWinder_1 : decode c_M_addWinder 1 = .ok (.iconst 0, 1) := by decide +kernel
theorem d_M_addWinder_2 : decode c_M_addWinder 2 = .ok (.putfield 45, 3) := by decide +kernel
theorem d_M_addWinder_5 : decode c_M_addWinder 5 = .ok (.iload_n 1, 1) := by decide +kernel
theorem d_M_addWinder_6 : decode c_M_addWinder 6 = .ok (.iconst 0, 1) := by decide +kernel
theorem d_M_addWinder_7 : decode c_M_addWinder 7 = .ok (.bipush 15, 2) := by decide +kernel
theorem d_M_addWinder_9 : decode c_M_addWinder 9 = .ok (.invokestatic 56, 3) := by decide +kernel
theorem d_M_addWinder_12 : decode c_M_addWinder 12 = .ok (.ifCond .eq 23, 3) := by decide +kernel
theorem d_M_addWinder_15 : decode c_M_addWinder 15 = .ok (.iload_n 2, 1) := by decide +kernel
theorem d_M_addWinder_16 : decode c_M_addWinder 16 = .ok (.iconst 0, 1) := by decide +kernel
theorem d_M_addWinder_17 : decode c_M_addWinder 17 = .ok (.bipush 15, 2) := by decide +kernel
theorem d_M_addWinder_19 : decode c_M_addWinder 19 = .ok (.invokestatic 56, 3) := by decide +kernel
theorem d_M_addWinder_22 : decode c_M_addWinder 22 = .ok (.ifCond .eq 13, 3) := by decide +kernel
theorem d_M_addWinder_25 : decode c_M_addWinder 25 = .ok (.iload_n 3, 1) := by decide +kernel
theorem d_M_addWinder_26 : decode c_M_addWinder 26 = .ok (.iconst 1, 1) := by decide +kernel
theorem d_M_addWinder_27 : decode c_M_addWinder 27 = .ok (.bipush 100, 2) := by decide +kernel
theorem d_M_addWinder_29 : decode c_M_addWinder 29 = .ok (.invokestatic 56, 3) := by decide +kernel
theorem d_M_addWinder_32 : decode c_M_addWinder 32 = .ok (.ifCond .ne 9, 3) := by decide +kernel
theorem d_M_addWinder_35 : decode c_M_addWinder 35 = .ok (.aload_n 0, 1) := by decide +kernel
theorem d_M_addWinder_36 : decode c_M_addWinder 36 = .ok (.iconst 1, 1) := by decide +kernel
theorem d_M_addWinder_37 : decode c_M_addWinder 37 = .ok (.invokevirtual 52, 3) := by decide +kernel
theorem d_M_addWinder_40 : decode c_M_addWinder 40 = .ok (.ireturn, 1) := by decide +kernel
theorem d_M_addWinder_41 : decode c_M_addWinder 41 = .ok (.aload_n 0, 1) := by decide +kernel
theorem d_M_addWinder_42 : decode c_M_addWinder 42 = .ok (.getfield 24, 3) := by decide +kernel
theorem d_M_addWinder_45 : decode c_M_addWinder 45 = .ok (.getfield 143, 3) := by decide +kernel
theorem d_M_addWinder_48 : decode c_M_addWinder 48 = .ok (.iconst 3, 1) := by decide +kernel
theorem d_M_addWinder_49 : decode c_M_addWinder 49 = .ok (.if_icmp .ne 9, 3) := by decide +kernel
theorem d_M_addWinder_52 : decode c_M_addWinder 52 = .ok (.aload_n 0, 1) := by decide +kernel
theorem d_M_addWinder_53 : decode c_M_addWinder 53 = .ok (.iconst 2, 1) := by decide +kernel
theorem d_M_addWinder_54 : decode c_M_addWinder 54 = .ok (.invokevirtual 52, 3) := by decide +kernel
theorem d_M_addWinder_57 : decode c_M_addWinder 57 = .ok (.ireturn, 1) := by decide +kernel
theorem d_M_addWinder_58 : decode c_M_addWinder 58 = .ok (.bipush 6, 2) := by decide +kernel
theorem d_M_addWinder_60 : decode c_M_addWinder 60 = .ok (.newarray .int, 2) := by decide +kernel
theorem d_M_addWinder_62 : decode c_M_addWinder 62 = .ok (.dup, 1) := by decide +kernel
theorem d_M_addWinder_63 : decode c_M_addWinder 63 = .ok (.iconst 0, 1) := by decide +kernel
theorem d_M_addWinder_64 : decode c_M_addWinder 64 = .ok (.iload_n 1, 1) := by decide +kernel
theorem d_M_addWinder_65 : decode c_M_addWinder 65 = .ok (.iastore, 1) := by decide +kernel
theorem d_M_addWinder_66 : decode c_M_addWinder 66 = .ok (.dup, 1) := by decide +kernel
theorem d_M_addWinder_67 : decode c_M_addWinder 67 = .ok (.iconst 1, 1) := by decide +kernel
theorem d_M_addWinder_68 : decode c_M_addWinder 68 = .ok (.iload_n 2, 1) := by decide +kernel
theorem d_M_addWinder_69 : decode c_M_addWinder 69 = .ok (.iastore, 1) := by decide +kernel
theorem d_M_addWinder_70 : decode c_M_addWinder 70 = .ok (.dup, 1) := by decide +kernel
theorem d_M_addWinder_71 : decode c_M_addWinder 71 = .ok (.iconst 2, 1) := by decide +kernel
theorem d_M_addWinder_72 : decode c_M_addWinder 72 = .ok (.iload_n 3, 1) := by decide +kernel
theorem d_M_addWinder_73 : decode c_M_addWinder 73 = .ok (.iastore, 1) := by decide +kernel
theorem d_M_addWinder_74 : decode c_M_addWinder 74 = .ok (.dup, 1) := by decide +kernel
theorem d_M_addWinder_75 : decode c_M_addWinder 75 = .ok (.iconst 3, 1) := by decide +kernel
theorem d_M_addWinder_76 : decode c_M_addWinder 76 = .ok (.iconst 0, 1) := by decide +kernel
theorem d_M_addWinder_77 : decode c_M_addWinder 77 = .ok (.iastore, 1) := by decide +kernel
theorem d_M_addWinder_78 : decode c_M_addWinder 78 = .ok (.dup, 1) := by decide +kernel
theorem d_M_addWinder_79 : decode c_M_addWinder 79 = .ok (.iconst 4, 1) := by decide +kernel
theorem d_M_addWinder_80 : decode c_M_addWinder 80 = .ok (.iconst 0, 1) := by decide +kernel
theorem d_M_addWinder_81 : decode c_M_addWinder 81 = .ok (.iastore, 1) := by decide +kernel
theorem d_M_addWinder_82 : decode c_M_addWinder 82 = .ok (.dup, 1) := by decide +kernel
theorem d_M_addWinder_83 : decode c_M_addWinder 83 = .ok (.iconst 5, 1) := by decide +kernel
theorem d_M_addWinder_84 : decode c_M_addWinder 84 = .ok (.iconst 0, 1) := by decide +kernel
theorem d_M_addWinder_85 : decode c_M_addWinder 85 = .ok (.iastore, 1) := by decide +kernel
theorem d_M_addWinder_86 : decode c_M_addWinder 86 = .ok (.astore 4, 2) := by decide +kernel
theorem d_M_addWinder_88 : decode c_M_addWinder 88 = .ok (.aload 4, 2) := by decide +kernel
theorem d_M_addWinder_90 : decode c_M_addWinder 90 = .ok (.iconst 0, 1) := by decide +kernel
theorem d_M_addWinder_91 : decode c_M_addWinder 91 = .ok (.aload_n 0, 1) := by decide +kernel
theorem d_M_addWinder_92 : decode c_M_addWinder 92 = .ok (.getfield 24, 3) := by decide +kernel
theorem d_M_addWinder_95 : decode c_M_addWinder 95 = .ok (.getfield 146, 3) := by decide +kernel
theorem d_M_addWinder_98 : decode c_M_addWinder 98 = .ok (.bipush 6, 2) := by decide +kernel
theorem d_M_addWinder_100 : decode c_M_addWinder 100 = .ok (.aload_n 0, 1) := by decide +kernel
theorem d_M_addWinder_101 : decode c_M_addWinder 101 = .ok (.getfield 24, 3) := by decide +kernel
theorem d_M_addWinder_104 : decode c_M_addWinder 104 = .ok (.getfield 143, 3) := by decide +kernel
theorem d_M_addWinder_107 : decode c_M_addWinder 107 = .ok (.imul, 1) := by decide +kernel
theorem d_M_addWinder_108 : decode c_M_addWinder 108 = .ok (.bipush 6, 2) := by decide +kernel
theorem d_M_addWinder_110 : decode c_M_addWinder 110 = .ok (.invokestatic 66, 3) := by decide +kernel
theorem d_M_addWinder_113 : decode c_M_addWinder 113 = .ok (.aload_n 0, 1) := by decide +kernel
theorem d_M_addWinder_114 : decode c_M_addWinder 114 = .ok (.getfield 24, 3) := by decide +kernel
theorem d_M_addWinder_117 : decode c_M_addWinder 117 = .ok (.dup, 1) := by decide +kernel
theorem d_M_addWinder_118 : decode c_M_addWinder 118 = .ok (.getfield 143, 3) := by decide +kernel
theorem d_M_addWinder_121 : decode c_M_addWinder 121 = .ok (.iconst 1, 1) := by decide +kernel
theorem d_M_addWinder_122 : decode c_M_addWinder 122 = .ok (.iadd, 1) := by decide +kernel
theorem d_M_addWinder_123 : decode c_M_addWinder 123 = .ok (.putfield 143, 3) := by decide +kernel
theorem d_M_addWinder_126 : decode c_M_addWinder 126 = .ok (.aload_n 0, 1) := by decide +kernel
theorem d_M_addWinder_127 : decode c_M_addWinder 127 = .ok (.getfield 24, 3) := by decide +kernel
theorem d_M_addWinder_130 : decode c_M_addWinder 130 = .ok (.getfield 143, 3) := by decide +kernel
theorem d_M_addWinder_133 : decode c_M_addWinder 133 = .ok (.iconst 1, 1) := by decide +kernel
theorem d_M_addWinder_134 : decode c_M_addWinder 134 = .ok (.isub, 1) := by decide +kernel
theorem d_M_addWinder_135 : decode c_M_addWinder 135 = .ok (.ireturn, 1) := by decide +kernel
theorem d_M_isWinder_0 : decode c_M_isWinder 0 = .ok (.iload_n 1, 1) := by decide +kernel
theorem d_M_isWinder_1 : decode c_M_isWinder 1 = .ok (.iconst 0, 1) := by decide +kernel
theorem d_M_isWinder_2 : decode c_M_isWinder 2 = .ok (.aload_n 0, 1) := by decide +kernel
theorem d_M_isWinder_3 : decode c_M_isWinder 3 = .ok (.getfield 24, 3) := by decide +kernel
theorem d_M_isWinder_6 : decode c_M_isWinder 6 = .ok (.getfield 143, 3) := by decide +kernel
theorem d_M_isWinder_9 : decode c_M_isWinder 9 = .ok (.iconst 1, 1) := by decide +kernel
theorem d_M_isWinder_10 : decode c_M_isWinder 10 = .ok (.isub, 1) := by decide +kernel
theorem d_M_isWinder_11 : decode c_M_isWinder 11 = .ok (.invokestatic 56, 3) := by decide +kernel
theorem d_M_isWinder_14 : decode c_M_isWinder 14 = .ok (.ireturn, 1) := by decide +kernel
theorem d_M_call_0 : decode c_M_call 0 = .ok (.aload_n 0, 1) := by decide +kernel
theorem d_M_call_1 : decode c_M_call 1 = .ok (.iconst 0, 1) := by decide +kernel
theorem d_M_call_2 : decode c_M_call 2 = .ok (.putfield 45, 3) := by decide +kernel
theorem d_M_call_5 : decode c_M_call 5 = .ok (.aload_n 0, 1) := by decide +kernel
theorem d_M_call_6 : decode c_M_call 6 = .ok (.iload_n 1, 1) := by decide +kernel
theorem d_M_call_7 : decode c_M_call 7 = .ok (.invokevirtual 149, 3) := by decide +kernel
theorem d_M_call_10 : decode c_M_call 10 = .ok (.ifCond .eq 11, 3) := by decide +kernel
theorem d_M_call_13 : decode c_M_call 13 = .ok (.aload_n 0, 1) := by decide +kernel
theorem d_M_call_14 : decode c_M_call 14 = .ok (.iload_n 2, 1) := by decide +kernel
theorem d_M_call_15 : decode c_M_call 15 = .ok (.invokevirtual 109, 3) := by decide +kernel
theorem d_M_call_18 : decode c_M_call 18 = .ok (.ifCond .ne 9, 3) := by decide +kernel
theorem d_M_call_21 : decode c_M_call 21 = .ok (.aload_n 0, 1) := by decide +kernel
theorem d_M_call_22 : decode c_M_call 22 = .ok (.iconst 1, 1) := by decide +kernel
theorem d_M_call_23 : decode c_M_call 23 = .ok (.invokevirtual 52, 3) := by decide +kernel
theorem d_M_call_26 : decode c_M_call 26 = .ok (.ireturn, 1) := by decide +kernel
theorem d_M_call_27 : decode c_M_call 27 = .ok (.aload_n 0, 1) := by decide +kernel
theorem d_M_call_28 : decode c_M_call 28 = .ok (.getfield 24, 3) := by decide +kernel
theorem d_M_call_31 : decode c_M_call 31 = .ok (.getfield 146, 3) := by decide +kernel
theorem d_M_call_34 : decode c_M_call 34 = .ok (.bipush 6, 2) := by decide +kernel
theorem d_M_call_36 : decode c_M_call 36 = .ok (.iload_n 1, 1) := by decide +kernel
theorem d_M_call_37 : decode c_M_call 37 = .ok (.imul, 1) := by decide +kernel
theorem d_M_call_38 : decode c_M_call 38 = .ok (.iconst 3, 1) := by decide +kernel
theorem d_M_call_39 : decode c_M_call 39 = .ok (.iadd, 1) := by decide +kernel
theorem d_M_call_40 : decode c_M_call 40 = .ok (.iaload, 1) := by decide +kernel
theorem d_M_call_41 : decode c_M_call 41 = .ok (.istore_n 3, 1) := by decide +kernel
theorem d_M_call_42 : decode c_M_call 42 = .ok (.iload_n 3, 1) := by decide +kernel
theorem d_M_call_43 : decode c_M_call 43 = .ok (.bipush 8, 2) := by decide +kernel
theorem d_M_call_45 : decode c_M_call 45 = .ok (.if_icmp .ne 9, 3) := by decide +kernel
theorem d_M_call_48 : decode c_M_call 48 = .ok (.aload_n 0, 1) := by decide +kernel
theorem d_M_call_49 : decode c_M_call 49 = .ok (.iconst 2, 1) := by decide +kernel
theorem d_M_call_50 : decode c_M_call 50 = .ok (.invokevirtual 52, 3) := by decide +kernel
theorem d_M_call_53 : decode c_M_call 53 = .ok (.ireturn, 1) := by decide +kernel
theorem d_M_call_54 : decode c_M_call 54 = .ok (.aload_n 0, 1) := by decide +kernel
theorem d_M_call_55 : decode c_M_call 55 = .ok (.getfield 24, 3) := by decide +kernel
theorem d_M_call_58 : decode c_M_call 58 = .ok (.getfield 152, 3) := by decide +kernel
theorem d_M_call_61 : decode c_M_call 61 = .ok (.bipush 8, 2) := by decide +kernel
theorem d_M_call_63 : decode c_M_call 63 = .ok (.iload_n 1, 1) := by decide +kernel
theorem d_M_call_64 : decode c_M_call 64 = .ok (.imul, 1) := by decide +kernel
theorem d_M_call_65 : decode c_M_call 65 = .ok (.iload_n 3, 1) := by decide +kernel
theorem d_M_call_66 : decode c_M_call 66 = .ok (.iadd, 1) := by decide +kernel
theorem d_M_call_67 : decode c_M_call 67 = .ok (.iload_n 2, 1) := by decide +kernel
theorem d_M_call_68 : decode c_M_call 68 = .ok (.iastore, 1) := by decide +kernel
theorem d_M_call_69 : decode c_M_call 69 = .ok (.aload_n 0, 1) := by decide +kernel
theorem d_M_call_70 : decode c_M_call 70 = .ok (.getfield 24, 3) := by decide +kernel
theorem d_M_call_73 : decode c_M_call 73 = .ok (.getfield 146, 3) := by decide +kernel
theorem d_M_call_76 : decode c_M_call 76 = .ok (.bipush 6, 2) := by decide +kernel
theorem d_M_call_78 : decode c_M_call 78 = .ok (.iload_n 1, 1) := by decide +kernel
theorem d_M_call_79 : decode c_M_call 79 = .ok (.imul, 1) := by decide +kernel
theorem d_M_call_80 : decode c_M_call 80 = .ok (.iconst 3, 1) := by decide +kernel
theorem d_M_call_81 : decode c_M_call 81 = .ok (.iadd, 1) := by decide +kernel
theorem d_M_call_82 : decode c_M_call 82 = .ok (.dup2, 1) := by decide +kernel
theorem d_M_call_83 : decode c_M_call 83 = .ok (.iaload, 1) := by decide +kernel
theorem d_M_call_84 : decode c_M_call 84 = .ok (.iconst 1, 1) := by decide +kernel
theorem d_M_call_85 : decode c_M_call 85 = .ok (.iadd, 1) := by decide +kernel
theorem d_M_call_86 : decode c_M_call 86 = .ok (.iastore, 1) := by decide +kernel
theorem d_M_call_87 : decode c_M_call 87 = .ok (.iload_n 3, 1) := by decide +kernel
theorem d_M_call_88 : decode c_M_call 88 = .ok (.iconst 1, 1) := by decide +kernel
theorem d_M_call_89 : decode c_M_call 89 = .ok (.iadd, 1) := by decide +kernel
theorem d_M_call_90 : decode c_M_call 90 = .ok (.ireturn, 1) := by decide +kernel
theorem d_M_winderTold_0 : decode c_M_winderTold 0 = .ok (.bipush 6, 2) := by decide +kernel
theorem d_M_winderTold_2 : decode c_M_winderTold 2 = .ok (.iload_n 1, 1) := by decide +kernel
theorem d_M_winderTold_3 : decode c_M_winderTold 3 = .ok (.imul, 1) := by decide +kernel
theorem d_M_winderTold_4 : decode c_M_winderTold 4 = .ok (.istore_n 3, 1) := by decide +kernel
theorem d_M_winderTold_5 : decode c_M_winderTold 5 = .ok (.iload_n 2, 1) := by decide +kernel
theorem d_M_winderTold_6 : decode c_M_winderTold 6 = .ok (.iconst 4, 1) := by decide +kernel
theorem d_M_winderTold_7 : decode c_M_winderTold 7 = .ok (.if_icmp .ne 46, 3) := by decide +kernel
theorem d_M_winderTold_10 : decode c_M_winderTold 10 = .ok (.aload_n 0, 1) := by decide +kernel
theorem d_M_winderTold_11 : decode c_M_winderTold 11 = .ok (.getfield 24, 3) := by decide +kernel
theorem d_M_winderTold_14 : decode c_M_winderTold 14 = .ok (.getfield 146, 3) := by decide +kernel
theorem d_M_winderTold_17 : decode c_M_winderTold 17 = .ok (.iload_n 3, 1) := by decide +kernel
theorem d_M_winderTold_18 : decode c_M_winderTold 18 = .ok (.iconst 3, 1) := by decide +kernel
theorem d_M_winderTold_19 : decode c_M_winderTold 19 = .ok (.iadd, 1) := by decide +kernel
theorem d_M_winderTold_20 : decode c_M_winderTold 20 = .ok (.iaload, 1) := by decide +kernel
theorem d_M_winderTold_21 : decode c_M_winderTold 21 = .ok (.ifCond .ne 7, 3) := by decide +kernel
theorem d_M_winderTold_24 : decode c_M_winderTold 24 = .ok (.iconst (-1), 1) := by decide +kernel
theorem d_M_winderTold_25 : decode c_M_winderTold 25 = .ok (.goto 27, 3) := by decide +kernel
theorem d_M_winderTold_28 : decode c_M_winderTold 28 = .ok (.aload_n 0, 1) := by decide +kernel
theorem d_M_winderTold_29 : decode c_M_winderTold 29 = .ok (.getfield 24, 3) := by decide +kernel
theorem d_M_winderTold_32 : decode c_M_winderTold 32 = .ok (.getfield 152, 3) := by decide +kernel
theorem d_M_winderTold_35 : decode c_M_winderTold 35 = .ok (.bipush 8, 2) := by decide +kernel
theorem d_M_winderTold_37 : decode c_M_winderTold 37 = .ok (.iload_n 1, 1) := by decide +kernel
theorem d_M_winderTold_38 : decode c_M_winderTold 38 = .ok (.imul, 1) := by decide +kernel
theorem d_M_winderTold_39 : decode c_M_winderTold 39 = .ok (.aload_n 0, 1) := by decide +kernel
theorem d_M_winderTold_40 : decode c_M_winderTold 40 = .ok (.getfield 24, 3) := by decide +kernel
theorem d_M_winderTold_43 : decode c_M_winderTold 43 = .ok (.getfield 146, 3) := by decide +kernel
theorem d_M_winderTold_46 : decode c_M_winderTold 46 = .ok (.iload_n 3, 1) := by decide +kernel
theorem d_M_winderTold_47 : decode c_M_winderTold 47 = .ok (.iconst 4, 1) := by decide +kernel
theorem d_M_winderTold_48 : decode c_M_winderTold 48 = .ok (.iadd, 1) := by decide +kernel
theorem d_M_winderTold_49 : decode c_M_winderTold 49 = .ok (.iaload, 1) := by decide +kernel
theorem d_M_winderTold_50 : decode c_M_winderTold 50 = .ok (.iadd, 1) := by decide +kernel
theorem d_M_winderTold_51 : decode c_M_winderTold 51 = .ok (.iaload, 1) := by decide +kernel
theorem d_M_winderTold_52 : decode c_M_winderTold 52 = .ok (.ireturn, 1) := by decide +kernel
theorem d_M_winderTold_53 : decode c_M_winderTold 53 = .ok (.aload_n 0, 1) := by decide +kernel
theorem d_M_winderTold_54 : decode c_M_winderTold 54 = .ok (.getfield 24, 3) := by decide +kernel
theorem d_M_winderTold_57 : decode c_M_winderTold 57 = .ok (.getfield 146, 3) := by decide +kernel
theorem d_M_winderTold_60 : decode c_M_winderTold 60 = .ok (.iload_n 3, 1) := by decide +kernel
theorem d_M_winderTold_61 : decode c_M_winderTold 61 = .ok (.iload_n 2, 1) := by decide +kernel
theorem d_M_winderTold_62 : decode c_M_winderTold 62 = .ok (.iadd, 1) := by decide +kernel
theorem d_M_winderTold_63 : decode c_M_winderTold 63 = .ok (.iaload, 1) := by decide +kernel
theorem d_M_winderTold_64 : decode c_M_winderTold 64 = .ok (.ireturn, 1) := by decide +kernel
theorem d_M_winder_0 : decode c_M_winder 0 = .ok (.aload_n 0, 1) := by decide +kernel
theorem d_M_winder_1 : decode c_M_winder 1 = .ok (.iconst 0, 1) := by decide +kernel
theorem d_M_winder_2 : decode c_M_winder 2 = .ok (.putfield 45, 3) := by decide +kernel
theorem d_M_winder_5 : decode c_M_winder 5 = .ok (.aload_n 0, 1) := by decide +kernel
theorem d_M_winder_6 : decode c_M_winder 6 = .ok (.iload_n 1, 1) := by decide +kernel
theorem d_M_winder_7 : decode c_M_winder 7 = .ok (.invokevirtual 149, 3) := by decide +kernel
theorem d_M_winder_10 : decode c_M_winder 10 = .ok (.ifCond .eq 21, 3) := by decide +kernel
theorem d_M_winder_13 : decode c_M_winder 13 = .ok (.iload_n 2, 1) := by decide +kernel
theorem d_M_winder_14 : decode c_M_winder 14 = .ok (.iconst 0, 1) := by decide +kernel
theorem d_M_winder_15 : decode c_M_winder 15 = .ok (.iconst 5, 1) := by decide +kernel
theorem d_M_winder_16 : decode c_M_winder 16 = .ok (.invokestatic 56, 3) := by decide +kernel
theorem d_M_winder_19 : decode c_M_winder 19 = .ok (.ifCond .eq 12, 3) := by decide +kernel
theorem d_M_winder_22 : decode c_M_winder 22 = .ok (.aload_n 0, 1) := by decide +kernel
theorem d_M_winder_23 : decode c_M_winder 23 = .ok (.iload_n 1, 1) := by decide +kernel
theorem d_M_winder_24 : decode c_M_winder 24 = .ok (.iload_n 2, 1) := by decide +kernel
theorem d_M_winder_25 : decode c_M_winder 25 = .ok (.invokevirtual 155, 3) := by decide +kernel
theorem d_M_winder_28 : decode c_M_winder 28 = .ok (.goto 8, 3) := by decide +kernel
theorem d_M_winder_31 : decode c_M_winder 31 = .ok (.aload_n 0, 1) := by decide +kernel
theorem d_M_winder_32 : decode c_M_winder 32 = .ok (.iconst 1, 1) := by decide +kernel
theorem d_M_winder_33 : decode c_M_winder 33 = .ok (.invokevirtual 52, 3) := by decide +kernel
theorem d_M_winder_36 : decode c_M_winder 36 = .ok (.ireturn, 1) := by decide +kernel
theorem d_M_pass_0 : decode c_M_pass 0 = .ok (.aload_n 0, 1) := by decide +kernel
theorem d_M_pass_1 : decode c_M_pass 1 = .ok (.iconst 0, 1) := by decide +kernel
theorem d_M_pass_2 : decode c_M_pass 2 = .ok (.putfield 45, 3) := by decide +kernel
theorem d_M_pass_5 : decode c_M_pass 5 = .ok (.iload_n 1, 1) := by decide +kernel
theorem d_M_pass_6 : decode c_M_pass 6 = .ok (.iconst 1, 1) := by decide +kernel
theorem d_M_pass_7 : decode c_M_pass 7 = .ok (.sipush 200, 3) := by decide +kernel
theorem d_M_pass_10 : decode c_M_pass 10 = .ok (.invokestatic 56, 3) := by decide +kernel
theorem d_M_pass_13 : decode c_M_pass 13 = .ok (.ifCond .ne 9, 3) := by decide +kernel
theorem d_M_pass_16 : decode c_M_pass 16 = .ok (.aload_n 0, 1) := by decide +kernel
theorem d_M_pass_17 : decode c_M_pass 17 = .ok (.iconst 1, 1) := by decide +kernel
theorem d_M_pass_18 : decode c_M_pass 18 = .ok (.invokevirtual 52, 3) := by decide +kernel
theorem d_M_pass_21 : decode c_M_pass 21 = .ok (.ireturn, 1) := by decide +kernel
theorem d_M_pass_22 : decode c_M_pass 22 = .ok (.iconst 0, 1) := by decide +kernel
theorem d_M_pass_23 : decode c_M_pass 23 = .ok (.istore_n 2, 1) := by decide +kernel
theorem d_M_pass_24 : decode c_M_pass 24 = .ok (.iconst 0, 1) := by decide +kernel
theorem d_M_pass_25 : decode c_M_pass 25 = .ok (.istore_n 3, 1) := by decide +kernel
theorem d_M_pass_26 : decode c_M_pass 26 = .ok (.iload_n 3, 1) := by decide +kernel
theorem d_M_pass_27 : decode c_M_pass 27 = .ok (.iload_n 1, 1) := by decide +kernel
theorem d_M_pass_28 : decode c_M_pass 28 = .ok (.if_icmp .ge 19, 3) := by decide +kernel
theorem d_M_pass_31 : decode c_M_pass 31 = .ok (.iload_n 2, 1) := by decide +kernel
theorem d_M_pass_32 : decode c_M_pass 32 = .ok (.aload_n 0, 1) := by decide +kernel
theorem d_M_pass_33 : decode c_M_pass 33 = .ok (.getfield 24, 3) := by decide +kernel
theorem d_M_pass_36 : decode c_M_pass 36 = .ok (.invokevirtual 158, 3) := by decide +kernel
theorem d_M_pass_39 : decode c_M_pass 39 = .ok (.iadd, 1) := by decide +kernel
theorem d_M_pass_40 : decode c_M_pass 40 = .ok (.istore_n 2, 1) := by decide +kernel
theorem d_M_pass_41 : decode c_M_pass 41 = .ok (.iinc 3 1, 3) := by decide +kernel
theorem d_M_pass_44 : decode c_M_pass 44 = .ok (.goto (-18), 3) := by decide +kernel
theorem d_M_pass_47 : decode c_M_pass 47 = .ok (.iload_n 2, 1) := by decide +kernel
theorem d_M_pass_48 : decode c_M_pass 48 = .ok (.ireturn, 1) := by decide +kernel
theorem d_M_counted_0 : decode c_M_counted 0 = .ok (.iload_n 1, 1) := by decide +kernel
theorem d_M_counted_1 : decode c_M_counted 1 = .ok (.ifCond .ne 13, 3) := by decide +kernel
theorem d_M_counted_4 : decode c_M_counted 4 = .ok (.aload_n 0, 1) := by decide +kernel
theorem d_M_counted_5 : decode c_M_counted 5 = .ok (.getfield 24, 3) := by decide +kernel
theorem d_M_counted_8 : decode c_M_counted 8 = .ok (.getfield 161, 3) := by decide +kernel
theorem d_M_counted_11 : decode c_M_counted 11 = .ok (.goto 41, 3) := by decide +kernel
theorem d_M_counted_14 : decode c_M_counted 14 = .ok (.iload_n 1, 1) := by decide +kernel
theorem d_M_counted_15 : decode c_M_counted 15 = .ok (.iconst 1, 1) := by decide +kernel
theorem d_M_counted_16 : decode c_M_counted 16 = .ok (.if_icmp .ne 13, 3) := by decide +kernel
theorem d_M_counted_19 : decode c_M_counted 19 = .ok (.aload_n 0, 1) := by decide +kernel
theorem d_M_counted_20 : decode c_M_counted 20 = .ok (.getfield 24, 3) := by decide +kernel
theorem d_M_counted_23 : decode c_M_counted 23 = .ok (.getfield 72, 3) := by decide +kernel
theorem d_M_counted_26 : decode c_M_counted 26 = .ok (.goto 26, 3) := by decide +kernel
theorem d_M_counted_29 : decode c_M_counted 29 = .ok (.iload_n 1, 1) := by decide +kernel
theorem d_M_counted_30 : decode c_M_counted 30 = .ok (.iconst 3, 1) := by decide +kernel
theorem d_M_counted_31 : decode c_M_counted 31 = .ok (.if_icmp .ne 13, 3) := by decide +kernel
theorem d_M_counted_34 : decode c_M_counted 34 = .ok (.aload_n 0, 1) := by decide +kernel
theorem d_M_counted_35 : decode c_M_counted 35 = .ok (.getfield 24, 3) := by decide +kernel
theorem d_M_counted_38 : decode c_M_counted 38 = .ok (.getfield 143, 3) := by decide +kernel
theorem d_M_counted_41 : decode c_M_counted 41 = .ok (.goto 11, 3) := by decide +kernel
theorem d_M_counted_44 : decode c_M_counted 44 = .ok (.aload_n 0, 1) := by decide +kernel
theorem d_M_counted_45 : decode c_M_counted 45 = .ok (.getfield 24, 3) := by decide +kernel
theorem d_M_counted_48 : decode c_M_counted 48 = .ok (.iload_n 1, 1) := by decide +kernel
theorem d_M_counted_49 : decode c_M_counted 49 = .ok (.invokevirtual 120, 3) := by decide +kernel
theorem d_M_counted_52 : decode c_M_counted 52 = .ok (.ireturn, 1) := by decide +kernel
theorem d_M_count_0 : decode c_M_count 0 = .ok (.aload_n 0, 1) := by decide +kernel
theorem d_M_count_1 : decode c_M_count 1 = .ok (.iconst 0, 1) := by decide +kernel
theorem d_M_count_2 : decode c_M_count 2 = .ok (.putfield 45, 3) := by decide +kernel
theorem d_M_count_5 : decode c_M_count 5 = .ok (.iload_n 1, 1) := by decide +kernel
theorem d_M_count_6 : decode c_M_count 6 = .ok (.iconst 0, 1) := by decide +kernel
theorem d_M_count_7 : decode c_M_count 7 = .ok (.bipush 8, 2) := by decide +kernel
theorem d_M_count_9 : decode c_M_count 9 = .ok (.invokestatic 56, 3) := by decide +kernel
theorem d_M_count_12 : decode c_M_count 12 = .ok (.ifCond .eq 11, 3) := by decide +kernel
theorem d_M_count_15 : decode c_M_count 15 = .ok (.aload_n 0, 1) := by decide +kernel
theorem d_M_count_16 : decode c_M_count 16 = .ok (.iload_n 1, 1) := by decide +kernel
theorem d_M_count_17 : decode c_M_count 17 = .ok (.invokevirtual 164, 3) := by decide +kernel
theorem d_M_count_20 : decode c_M_count 20 = .ok (.goto 8, 3) := by decide +kernel
theorem d_M_count_23 : decode c_M_count 23 = .ok (.aload_n 0, 1) := by decide +kernel
theorem d_M_count_24 : decode c_M_count 24 = .ok (.iconst 1, 1) := by decide +kernel
theorem d_M_count_25 : decode c_M_count 25 = .ok (.invokevirtual 52, 3) := by decide +kernel
theorem d_M_count_28 : decode c_M_count 28 = .ok (.ireturn, 1) := by decide +kernel
theorem d_M_foresee_0 : decode c_M_foresee 0 = .ok (.aload_n 0, 1) := by decide +kernel
theorem d_M_foresee_1 : decode c_M_foresee 1 = .ok (.iconst 0, 1) := by decide +kernel
theorem d_M_foresee_2 : decode c_M_foresee 2 = .ok (.putfield 45, 3) := by decide +kernel
theorem d_M_foresee_5 : decode c_M_foresee 5 = .ok (.aload_n 0, 1) := by decide +kernel
theorem d_M_foresee_6 : decode c_M_foresee 6 = .ok (.iload_n 1, 1) := by decide +kernel
theorem d_M_foresee_7 : decode c_M_foresee 7 = .ok (.invokevirtual 109, 3) := by decide +kernel
theorem d_M_foresee_10 : decode c_M_foresee 10 = .ok (.ifCond .eq 12, 3) := by decide +kernel
theorem d_M_foresee_13 : decode c_M_foresee 13 = .ok (.iload_n 3, 1) := by decide +kernel
theorem d_M_foresee_14 : decode c_M_foresee 14 = .ok (.iconst 0, 1) := by decide +kernel
theorem d_M_foresee_15 : decode c_M_foresee 15 = .ok (.iconst 4, 1) := by decide +kernel
theorem d_M_foresee_16 : decode c_M_foresee 16 = .ok (.invokestatic 56, 3) := by decide +kernel
theorem d_M_foresee_19 : decode c_M_foresee 19 = .ok (.ifCond .ne 9, 3) := by decide +kernel
theorem d_M_foresee_22 : decode c_M_foresee 22 = .ok (.aload_n 0, 1) := by decide +kernel
theorem d_M_foresee_23 : decode c_M_foresee 23 = .ok (.iconst 1, 1) := by decide +kernel
theorem d_M_foresee_24 : decode c_M_foresee 24 = .ok (.invokevirtual 52, 3) := by decide +kernel
theorem d_M_foresee_27 : decode c_M_foresee 27 = .ok (.ireturn, 1) := by decide +kernel
theorem d_M_foresee_28 : decode c_M_foresee 28 = .ok (.iload_n 2, 1) := by decide +kernel
theorem d_M_foresee_29 : decode c_M_foresee 29 = .ok (.iconst 1, 1) := by decide +kernel
theorem d_M_foresee_30 : decode c_M_foresee 30 = .ok (.sipush 200, 3) := by decide +kernel
theorem d_M_foresee_33 : decode c_M_foresee 33 = .ok (.invokestatic 56, 3) := by decide +kernel
theorem d_M_foresee_36 : decode c_M_foresee 36 = .ok (.ifCond .ne 9, 3) := by decide +kernel
theorem d_M_foresee_39 : decode c_M_foresee 39 = .ok (.aload_n 0, 1) := by decide +kernel
theorem d_M_foresee_40 : decode c_M_foresee 40 = .ok (.iconst 2, 1) := by decide +kernel
theorem d_M_foresee_41 : decode c_M_foresee 41 = .ok (.invokevirtual 52, 3) := by decide +kernel
theorem d_M_foresee_44 : decode c_M_foresee 44 = .ok (.ireturn, 1) := by decide +kernel
theorem d_M_foresee_45 : decode c_M_foresee 45 = .ok (.aload_n 0, 1) := by decide +kernel
theorem d_M_foresee_46 : decode c_M_foresee 46 = .ok (.getfield 28, 3) := by decide +kernel
theorem d_M_foresee_49 : decode c_M_foresee 49 = .ok (.aload_n 0, 1) := by decide +kernel
theorem d_M_foresee_50 : decode c_M_foresee 50 = .ok (.getfield 24, 3) := by decide +kernel
theorem d_M_foresee_53 : decode c_M_foresee 53 = .ok (.invokevirtual 167, 3) := by decide +kernel
theorem d_M_foresee_56 : decode c_M_foresee 56 = .ok (.iconst 0, 1) := by decide +kernel
theorem d_M_foresee_57 : decode c_M_foresee 57 = .ok (.istore 4, 2) := by decide +kernel
theorem d_M_foresee_59 : decode c_M_foresee 59 = .ok (.iload 4, 2) := by decide +kernel
theorem d_M_foresee_61 : decode c_M_foresee 61 = .ok (.iload_n 2, 1) := by decide +kernel
theorem d_M_foresee_62 : decode c_M_foresee 62 = .ok (.if_icmp .ge 17, 3) := by decide +kernel
theorem d_M_foresee_65 : decode c_M_foresee 65 = .ok (.aload_n 0, 1) := by decide +kernel
theorem d_M_foresee_66 : decode c_M_foresee 66 = .ok (.getfield 28, 3) := by decide +kernel
theorem d_M_foresee_69 : decode c_M_foresee 69 = .ok (.invokevirtual 158, 3) := by decide +kernel
theorem d_M_foresee_72 : decode c_M_foresee 72 = .ok (.pop, 1) := by decide +kernel
theorem d_M_foresee_73 : decode c_M_foresee 73 = .ok (.iinc 4 1, 3) := by decide +kernel
theorem d_M_foresee_76 : decode c_M_foresee 76 = .ok (.goto (-17), 3) := by decide +kernel
theorem d_M_foresee_79 : decode c_M_foresee 79 = .ok (.iconst 5, 1) := by decide +kernel
theorem d_M_foresee_80 : decode c_M_foresee 80 = .ok (.newarray .int, 2) := by decide +kernel
theorem d_M_foresee_82 : decode c_M_foresee 82 = .ok (.dup, 1) := by decide +kernel
theorem d_M_foresee_83 : decode c_M_foresee 83 = .ok (.iconst 0, 1) := by decide +kernel
theorem d_M_foresee_84 : decode c_M_foresee 84 = .ok (.aload_n 0, 1) := by decide +kernel
theorem d_M_foresee_85 : decode c_M_foresee 85 = .ok (.getfield 28, 3) := by decide +kernel
theorem d_M_foresee_88 : decode c_M_foresee 88 = .ok (.getfield 91, 3) := by decide +kernel
theorem d_M_foresee_91 : decode c_M_foresee 91 = .ok (.iload_n 1, 1) := by decide +kernel
theorem d_M_foresee_92 : decode c_M_foresee 92 = .ok (.iaload, 1) := by decide +kernel
theorem d_M_foresee_93 : decode c_M_foresee 93 = .ok (.iastore, 1) := by decide +kernel
theorem d_M_foresee_94 : decode c_M_foresee 94 = .ok (.dup, 1) := by decide +kernel
theorem d_M_foresee_95 : decode c_M_foresee 95 = .ok (.iconst 1, 1) := by decide +kernel
theorem d_M_foresee_96 : decode c_M_foresee 96 = .ok (.aload_n 0, 1) := by decide +kernel
theorem d_M_foresee_97 : decode c_M_foresee 97 = .ok (.getfield 28, 3) := by decide +kernel
theorem d_M_foresee_100 : decode c_M_foresee 100 = .ok (.getfield 94, 3) := by decide +kernel
theorem d_M_foresee_103 : decode c_M_foresee 103 = .ok (.iload_n 1, 1) := by decide +kernel
theorem d_M_foresee_104 : decode c_M_foresee 104 = .ok (.iaload, 1) := by decide +kernel
theorem d_M_foresee_105 : decode c_M_foresee 105 = .ok (.iastore, 1) := by decide +kernel
theorem d_M_foresee_106 : decode c_M_foresee 106 = .ok (.dup, 1) := by decide +kernel
theorem d_M_foresee_107 : decode c_M_foresee 107 = .ok (.iconst 2, 1) := by decide +kernel
theorem d_M_foresee_108 : decode c_M_foresee 108 = .ok (.aload_n 0, 1) := by decide +kernel
theorem d_M_foresee_109 : decode c_M_foresee 109 = .ok (.getfield 28, 3) := by decide +kernel
theorem d_M_foresee_112 : decode c_M_foresee 112 = .ok (.getfield 97, 3) := by decide +kernel
theorem d_M_foresee_115 : decode c_M_foresee 115 = .ok (.iload_n 1, 1) := by decide +kernel
theorem d_M_foresee_116 : decode c_M_foresee 116 = .ok (.iaload, 1) := by decide +kernel
theorem d_M_foresee_117 : decode c_M_foresee 117 = .ok (.iastore, 1) := by decide +kernel
theorem d_M_foresee_118 : decode c_M_foresee 118 = .ok (.dup, 1) := by decide +kernel
theorem d_M_foresee_119 : decode c_M_foresee 119 = .ok (.iconst 3, 1) := by decide +kernel
theorem d_M_foresee_120 : decode c_M_foresee 120 = .ok (.aload_n 0, 1) := by decide +kernel
theorem d_M_foresee_121 : decode c_M_foresee 121 = .ok (.getfield 28, 3) := by decide +kernel
theorem d_M_foresee_124 : decode c_M_foresee 124 = .ok (.getfield 103, 3) := by decide +kernel
theorem d_M_foresee_127 : decode c_M_foresee 127 = .ok (.iload_n 1, 1) := by decide +kernel
theorem d_M_foresee_128 : decode c_M_foresee 128 = .ok (.iaload, 1) := by decide +kernel
theorem d_M_foresee_129 : decode c_M_foresee 129 = .ok (.iastore, 1) := by decide +kernel
theorem d_M_foresee_130 : decode c_M_foresee 130 = .ok (.dup, 1) := by decide +kernel
theorem d_M_foresee_131 : decode c_M_foresee 131 = .ok (.iconst 4, 1) := by decide +kernel
theorem d_M_foresee_132 : decode c_M_foresee 132 = .ok (.aload_n 0, 1) := by decide +kernel
theorem d_M_foresee_133 : decode c_M_foresee 133 = .ok (.getfield 28, 3) := by decide +kernel
theorem d_M_foresee_136 : decode c_M_foresee 136 = .ok (.getfield 137, 3) := by decide +kernel
theorem d_M_foresee_139 : decode c_M_foresee 139 = .ok (.iload_n 1, 1) := by decide +kernel
theorem d_M_foresee_140 : decode c_M_foresee 140 = .ok (.iaload, 1) := by decide +kernel
theorem d_M_foresee_141 : decode c_M_foresee 141 = .ok (.aload_n 0, 1) := by decide +kernel
theorem d_M_foresee_142 : decode c_M_foresee 142 = .ok (.getfield 24, 3) := by decide +kernel
theorem d_M_foresee_145 : decode c_M_foresee 145 = .ok (.getfield 137, 3) := by decide +kernel
theorem d_M_foresee_148 : decode c_M_foresee 148 = .ok (.iload_n 1, 1) := by decide +kernel
theorem d_M_foresee_149 : decode c_M_foresee 149 = .ok (.iaload, 1) := by decide +kernel
theorem d_M_foresee_150 : decode c_M_foresee 150 = .ok (.isub, 1) := by decide +kernel
theorem d_M_foresee_151 : decode c_M_foresee 151 = .ok (.iastore, 1) := by decide +kernel
theorem d_M_foresee_152 : decode c_M_foresee 152 = .ok (.astore 4, 2) := by decide +kernel
theorem d_M_foresee_154 : decode c_M_foresee 154 = .ok (.aload 4, 2) := by decide +kernel
theorem d_M_foresee_156 : decode c_M_foresee 156 = .ok (.iload_n 3, 1) := by decide +kernel
theorem d_M_foresee_157 : decode c_M_foresee 157 = .ok (.iaload, 1) := by decide +kernel
theorem d_M_foresee_158 : decode c_M_foresee 158 = .ok (.ireturn, 1) := by decide +kernel
theorem d_M_firstToStop_0 : decode c_M_firstToStop 0 = .ok (.aload_n 0, 1) := by decide +kernel
theorem d_M_firstToStop_1 : decode c_M_firstToStop 1 = .ok (.iconst 0, 1) := by decide +kernel
theorem d_M_firstToStop_2 : decode c_M_firstToStop 2 = .ok (.putfield 45, 3) := by decide +kernel
theorem d_M_firstToStop_5 : decode c_M_firstToStop 5 = .ok (.iload_n 1, 1) := by decide +kernel
theorem d_M_firstToStop_6 : decode c_M_firstToStop 6 = .ok (.iconst 1, 1) := by decide +kernel
theorem d_M_firstToStop_7 : decode c_M_firstToStop 7 = .ok (.sipush 200, 3) := by decide +kernel
theorem d_M_firstToStop_10 : decode c_M_firstToStop 10 = .ok (.invokestatic 56, 3) := by decide +kernel
theorem d_M_firstToStop_13 : decode c_M_firstToStop 13 = .ok (.ifCond .ne 9, 3) := by decide +kernel
theorem d_M_firstToStop_16 : decode c_M_firstToStop 16 = .ok (.aload_n 0, 1) := by decide +kernel
theorem d_M_firstToStop_17 : decode c_M_firstToStop 17 = .ok (.iconst 1, 1) := by decide +kernel
theorem d_M_firstToStop_18 : decode c_M_firstToStop 18 = .ok (.invokevirtual 52, 3) := by decide +kernel
theorem d_M_firstToStop_21 : decode c_M_firstToStop 21 = .ok (.ireturn, 1) := by decide +kernel
theorem d_M_firstToStop_22 : decode c_M_firstToStop 22 = .ok (.aload_n 0, 1) := by decide +kernel
theorem d_M_firstToStop_23 : decode c_M_firstToStop 23 = .ok (.getfield 28, 3) := by decide +kernel
theorem d_M_firstToStop_26 : decode c_M_firstToStop 26 = .ok (.aload_n 0, 1) := by decide +kernel
theorem d_M_firstToStop_27 : decode c_M_firstToStop 27 = .ok (.getfield 24, 3) := by decide +kernel
theorem d_M_firstToStop_30 : decode c_M_firstToStop 30 = .ok (.invokevirtual 167, 3) := by decide +kernel
theorem d_M_firstToStop_33 : decode c_M_firstToStop 33 = .ok (.iconst (-1), 1) := by decide +kernel
theorem d_M_firstToStop_34 : decode c_M_firstToStop 34 = .ok (.istore_n 2, 1) := by decide +kernel
theorem d_M_firstToStop_35 : decode c_M_firstToStop 35 = .ok (.iconst 0, 1) := by decide +kernel
theorem d_M_firstToStop_36 : decode c_M_firstToStop 36 = .ok (.istore_n 3, 1) := by decide +kernel
theorem d_M_firstToStop_37 : decode c_M_firstToStop 37 = .ok (.iload_n 3, 1) := by decide +kernel
theorem d_M_firstToStop_38 : decode c_M_firstToStop 38 = .ok (.iload_n 1, 1) := by decide +kernel
theorem d_M_firstToStop_39 : decode c_M_firstToStop 39 = .ok (.if_icmp .ge 71, 3) := by decide +kernel
theorem d_M_firstToStop_42 : decode c_M_firstToStop 42 = .ok (.iload_n 2, 1) := by decide +kernel
theorem d_M_firstToStop_43 : decode c_M_firstToStop 43 = .ok (.iconst (-1), 1) := by decide +kernel
theorem d_M_firstToStop_44 : decode c_M_firstToStop 44 = .ok (.if_icmp .ne 66, 3) := by decide +kernel
theorem d_M_firstToStop_47 : decode c_M_firstToStop 47 = .ok (.aload_n 0, 1) := by decide +kernel
theorem d_M_firstToStop_48 : decode c_M_firstToStop 48 = .ok (.getfield 28, 3) := by decide +kernel
theorem d_M_firstToStop_51 : decode c_M_firstToStop 51 = .ok (.invokevirtual 158, 3) := by decide +kernel
theorem d_M_firstToStop_54 : decode c_M_firstToStop 54 = .ok (.pop, 1) := by decide +kernel
theorem d_M_firstToStop_55 : decode c_M_firstToStop 55 = .ok (.aload_n 0, 1) := by decide +kernel
theorem d_M_firstToStop_56 : decode c_M_firstToStop 56 = .ok (.getfield 24, 3) := by decide +kernel
theorem d_M_firstToStop_59 : decode c_M_firstToStop 59 = .ok (.getfield 72, 3) := by decide +kernel
theorem d_M_firstToStop_62 : decode c_M_firstToStop 62 = .ok (.iconst 1, 1) := by decide +kernel
theorem d_M_firstToStop_63 : decode c_M_firstToStop 63 = .ok (.isub, 1) := by decide +kernel
theorem d_M_firstToStop_64 : decode c_M_firstToStop 64 = .ok (.istore 4, 2) := by decide +kernel
theorem d_M_firstToStop_66 : decode c_M_firstToStop 66 = .ok (.iload 4, 2) := by decide +kernel
theorem d_M_firstToStop_68 : decode c_M_firstToStop 68 = .ok (.ifCond .lt 36, 3) := by decide +kernel
theorem d_M_firstToStop_71 : decode c_M_firstToStop 71 = .ok (.aload_n 0, 1) := by decide +kernel
theorem d_M_firstToStop_72 : decode c_M_firstToStop 72 = .ok (.getfield 28, 3) := by decide +kernel
theorem d_M_firstToStop_75 : decode c_M_firstToStop 75 = .ok (.iload 4, 2) := by decide +kernel
theorem d_M_firstToStop_77 : decode c_M_firstToStop 77 = .ok (.invokevirtual 171, 3) := by decide +kernel
theorem d_M_firstToStop_80 : decode c_M_firstToStop 80 = .ok (.ifCond .eq 18, 3) := by decide +kernel
theorem d_M_firstToStop_83 : decode c_M_firstToStop 83 = .ok (.aload_n 0, 1) := by decide +kernel
theorem d_M_firstToStop_84 : decode c_M_firstToStop 84 = .ok (.getfield 24, 3) := by decide +kernel
theorem d_M_firstToStop_87 : decode c_M_firstToStop 87 = .ok (.iload 4, 2) := by decide +kernel
theorem d_M_firstToStop_89 : decode c_M_firstToStop 89 = .ok (.invokevirtual 171, 3) := by decide +kernel
theorem d_M_firstToStop_92 : decode c_M_firstToStop 92 = .ok (.ifCond .ne 6, 3) := by decide +kernel
theorem d_M_firstToStop_95 : decode c_M_firstToStop 95 = .ok (.iload 4, 2) := by decide +kernel
theorem d_M_firstToStop_97 : decode c_M_firstToStop 97 = .ok (.istore_n 2, 1) := by decide +kernel
theorem d_M_firstToStop_98 : decode c_M_firstToStop 98 = .ok (.iinc 4 (-1), 3) := by decide +kernel
theorem d_M_firstToStop_101 : decode c_M_firstToStop 101 = .ok (.goto (-35), 3) := by decide +kernel
theorem d_M_firstToStop_104 : decode c_M_firstToStop 104 = .ok (.iinc 3 1, 3) := by decide +kernel
theorem d_M_firstToStop_107 : decode c_M_firstToStop 107 = .ok (.goto (-70), 3) := by decide +kernel
theorem d_M_firstToStop_110 : decode c_M_firstToStop 110 = .ok (.iload_n 2, 1) := by decide +kernel
theorem d_M_firstToStop_111 : decode c_M_firstToStop 111 = .ok (.ireturn, 1) := by decide +kernel
theorem d_M_meet_0 : decode c_M_meet 0 = .ok (.aload_n 0, 1) := by decide +kernel
theorem d_M_meet_1 : decode c_M_meet 1 = .ok (.iconst 0, 1) := by decide +kernel
theorem d_M_meet_2 : decode c_M_meet 2 = .ok (.putfield 45, 3) := by decide +kernel
theorem d_M_meet_5 : decode c_M_meet 5 = .ok (.aload_n 0, 1) := by decide +kernel
theorem d_M_meet_6 : decode c_M_meet 6 = .ok (.iload_n 1, 1) := by decide +kernel
theorem d_M_meet_7 : decode c_M_meet 7 = .ok (.invokevirtual 109, 3) := by decide +kernel
theorem d_M_meet_10 : decode c_M_meet 10 = .ok (.ifCond .eq 11, 3) := by decide +kernel
theorem d_M_meet_13 : decode c_M_meet 13 = .ok (.aload_n 0, 1) := by decide +kernel
theorem d_M_meet_14 : decode c_M_meet 14 = .ok (.iload_n 2, 1) := by decide +kernel
theorem d_M_meet_15 : decode c_M_meet 15 = .ok (.invokevirtual 109, 3) := by decide +kernel
theorem d_M_meet_18 : decode c_M_meet 18 = .ok (.ifCond .ne 9, 3) := by decide +kernel
theorem d_M_meet_21 : decode c_M_meet 21 = .ok (.aload_n 0, 1) := by decide +kernel
theorem d_M_meet_22 : decode c_M_meet 22 = .ok (.iconst 1, 1) := by decide +kernel
theorem d_M_meet_23 : decode c_M_meet 23 = .ok (.invokevirtual 52, 3) := by decide +kernel
theorem d_M_meet_26 : decode c_M_meet 26 = .ok (.ireturn, 1) := by decide +kernel
theorem d_M_meet_27 : decode c_M_meet 27 = .ok (.iload_n 1, 1) := by decide +kernel
theorem d_M_meet_28 : decode c_M_meet 28 = .ok (.iload_n 2, 1) := by decide +kernel
theorem d_M_meet_29 : decode c_M_meet 29 = .ok (.if_icmp .eq 14, 3) := by decide +kernel
theorem d_M_meet_32 : decode c_M_meet 32 = .ok (.iload_n 3, 1) := by decide +kernel
theorem d_M_meet_33 : decode c_M_meet 33 = .ok (.iconst 1, 1) := by decide +kernel
theorem d_M_meet_34 : decode c_M_meet 34 = .ok (.sipush 200, 3) := by decide +kernel
theorem d_M_meet_37 : decode c_M_meet 37 = .ok (.invokestatic 56, 3) := by decide +kernel
theorem d_M_meet_40 : decode c_M_meet 40 = .ok (.ifCond .ne 9, 3) := by decide +kernel
theorem d_M_meet_43 : decode c_M_meet 43 = .ok (.aload_n 0, 1) := by decide +kernel
theorem d_M_meet_44 : decode c_M_meet 44 = .ok (.iconst 2, 1) := by decide +kernel
theorem d_M_meet_45 : decode c_M_meet 45 = .ok (.invokevirtual 52, 3) := by decide +kernel
theorem d_M_meet_48 : decode c_M_meet 48 = .ok (.ireturn, 1) := by decide +kernel
theorem d_M_meet_49 : decode c_M_meet 49 = .ok (.aload_n 0, 1) := by decide +kernel
theorem d_M_meet_50 : decode c_M_meet 50 = .ok (.getfield 28, 3) := by decide +kernel
theorem d_M_meet_53 : decode c_M_meet 53 = .ok (.aload_n 0, 1) := by decide +kernel
theorem d_M_meet_54 : decode c_M_meet 54 = .ok (.getfield 24, 3) := by decide +kernel
theorem d_M_meet_57 : decode c_M_meet 57 = .ok (.invokevirtual 167, 3) := by decide +kernel
theorem d_M_meet_60 : decode c_M_meet 60 = .ok (.iconst 0, 1) := by decide +kernel
theorem d_M_meet_61 : decode c_M_meet 61 = .ok (.istore 4, 2) := by decide +kernel
theorem d_M_meet_63 : decode c_M_meet 63 = .ok (.aload_n 0, 1) := by decide +kernel
theorem d_M_meet_64 : decode c_M_meet 64 = .ok (.getfield 28, 3) := by decide +kernel
theorem d_M_meet_67 : decode c_M_meet 67 = .ok (.iload_n 1, 1) := by decide +kernel
theorem d_M_meet_68 : decode c_M_meet 68 = .ok (.iload_n 2, 1) := by decide +kernel
theorem d_M_meet_69 : decode c_M_meet 69 = .ok (.invokevirtual 112, 3) := by decide +kernel
theorem d_M_meet_72 : decode c_M_meet 72 = .ok (.ifCond .ne 23, 3) := by decide +kernel
theorem d_M_meet_75 : decode c_M_meet 75 = .ok (.iload 4, 2) := by decide +kernel
theorem d_M_meet_77 : decode c_M_meet 77 = .ok (.iload_n 3, 1) := by decide +kernel
theorem d_M_meet_78 : decode c_M_meet 78 = .ok (.if_icmp .ge 17, 3) := by decide +kernel
theorem d_M_meet_81 : decode c_M_meet 81 = .ok (.aload_n 0, 1) := by decide +kernel
theorem d_M_meet_82 : decode c_M_meet 82 = .ok (.getfield 28, 3) := by decide +kernel
theorem d_M_meet_85 : decode c_M_meet 85 = .ok (.invokevirtual 158, 3) := by decide +kernel
theorem d_M_meet_88 : decode c_M_meet 88 = .ok (.pop, 1) := by decide +kernel
theorem d_M_meet_89 : decode c_M_meet 89 = .ok (.iinc 4 1, 3) := by decide +kernel
theorem d_M_meet_92 : decode c_M_meet 92 = .ok (.goto (-29), 3) := by decide +kernel
theorem d_M_meet_95 : decode c_M_meet 95 = .ok (.aload_n 0, 1) := by decide +kernel
theorem d_M_meet_96 : decode c_M_meet 96 = .ok (.getfield 28, 3) := by decide +kernel
theorem d_M_meet_99 : decode c_M_meet 99 = .ok (.iload_n 1, 1) := by decide +kernel
theorem d_M_meet_100 : decode c_M_meet 100 = .ok (.iload_n 2, 1) := by decide +kernel
theorem d_M_meet_101 : decode c_M_meet 101 = .ok (.invokevirtual 112, 3) := by decide +kernel
theorem d_M_meet_104 : decode c_M_meet 104 = .ok (.ifCond .eq 8, 3) := by decide +kernel
theorem d_M_meet_107 : decode c_M_meet 107 = .ok (.iload 4, 2) := by decide +kernel
theorem d_M_meet_109 : decode c_M_meet 109 = .ok (.goto 4, 3) := by decide +kernel
theorem d_M_meet_112 : decode c_M_meet 112 = .ok (.iconst (-1), 1) := by decide +kernel
theorem d_M_meet_113 : decode c_M_meet 113 = .ok (.ireturn, 1) := by decide +kernel
theorem d_M_tension_0 : decode c_M_tension 0 = .ok (.aload_n 0, 1) := by decide +kernel
theorem d_M_tension_1 : decode c_M_tension 1 = .ok (.iconst 0, 1) := by decide +kernel
theorem d_M_tension_2 : decode c_M_tension 2 = .ok (.putfield 45, 3) := by decide +kernel
theorem d_M_tension_5 : decode c_M_tension 5 = .ok (.aload_n 0, 1) := by decide +kernel
theorem d_M_tension_6 : decode c_M_tension 6 = .ok (.getfield 24, 3) := by decide +kernel
theorem d_M_tension_9 : decode c_M_tension 9 = .ok (.getfield 72, 3) := by decide +kernel
theorem d_M_tension_12 : decode c_M_tension 12 = .ok (.ifCond .ne 7, 3) := by decide +kernel
theorem d_M_tension_15 : decode c_M_tension 15 = .ok (.dconst 0, 1) := by decide +kernel
theorem d_M_tension_16 : decode c_M_tension 16 = .ok (.goto 21, 3) := by decide +kernel
theorem d_M_tension_19 : decode c_M_tension 19 = .ok (.aload_n 0, 1) := by decide +kernel
theorem d_M_tension_20 : decode c_M_tension 20 = .ok (.getfield 24, 3) := by decide +kernel
theorem d_M_tension_23 : decode c_M_tension 23 = .ok (.iconst 5, 1) := by decide +kernel
theorem d_M_tension_24 : decode c_M_tension 24 = .ok (.invokevirtual 120, 3) := by decide +kernel
theorem d_M_tension_27 : decode c_M_tension 27 = .ok (.i2d, 1) := by decide +kernel
theorem d_M_tension_28 : decode c_M_tension 28 = .ok (.aload_n 0, 1) := by decide +kernel
theorem d_M_tension_29 : decode c_M_tension 29 = .ok (.getfield 24, 3) := by decide +kernel
theorem d_M_tension_32 : decode c_M_tension 32 = .ok (.getfield 72, 3) := by decide +kernel
theorem d_M_tension_35 : decode c_M_tension 35 = .ok (.i2d, 1) := by decide +kernel
theorem d_M_tension_36 : decode c_M_tension 36 = .ok (.ddiv, 1) := by decide +kernel
theorem d_M_tension_37 : decode c_M_tension 37 = .ok (.dreturn, 1) := by decide +kernel
theorem d_M_digest_0 : decode c_M_digest 0 = .ok (.aload_n 0, 1) := by decide +kernel
theorem d_M_digest_1 : decode c_M_digest 1 = .ok (.iconst 0, 1) := by decide +kernel
theorem d_M_digest_2 : decode c_M_digest 2 = .ok (.putfield 45, 3) := by decide +kernel
theorem d_M_digest_5 : decode c_M_digest 5 = .ok (.ldc2_w 174, 3) := by decide +kernel
theorem d_M_digest_8 : decode c_M_digest 8 = .ok (.lstore_n 1, 1) := by decide +kernel
theorem d_M_digest_9 : decode c_M_digest 9 = .ok (.iconst 0, 1) := by decide +kernel
theorem d_M_digest_10 : decode c_M_digest 10 = .ok (.istore_n 3, 1) := by decide +kernel
theorem d_M_digest_11 : decode c_M_digest 11 = .ok (.iload_n 3, 1) := by decide +kernel
theorem d_M_digest_12 : decode c_M_digest 12 = .ok (.bipush 9, 2) := by decide +kernel
theorem d_M_digest_14 : decode c_M_digest 14 = .ok (.if_icmp .ge 22, 3) := by decide +kernel
theorem d_M_digest_17 : decode c_M_digest 17 = .ok (.lload_n 1, 1) := by decide +kernel
theorem d_M_digest_18 : decode c_M_digest 18 = .ok (.ldc2_w 176, 3) := by decide +kernel
theorem d_M_digest_21 : decode c_M_digest 21 = .ok (.lmul, 1) := by decide +kernel
theorem d_M_digest_22 : decode c_M_digest 22 = .ok (.aload_n 0, 1) := by decide +kernel
theorem d_M_digest_23 : decode c_M_digest 23 = .ok (.iload_n 3, 1) := by decide +kernel
theorem d_M_digest_24 : decode c_M_digest 24 = .ok (.invokevirtual 164, 3) := by decide +kernel
theorem d_M_digest_27 : decode c_M_digest 27 = .ok (.i2l, 1) := by decide +kernel
theorem d_M_digest_28 : decode c_M_digest 28 = .ok (.ladd, 1) := by decide +kernel
theorem d_M_digest_29 : decode c_M_digest 29 = .ok (.lstore_n 1, 1) := by decide +kernel
theorem d_M_digest_30 : decode c_M_digest 30 = .ok (.iinc 3 1, 3) := by decide +kernel
theorem d_M_digest_33 : decode c_M_digest 33 = .ok (.goto (-22), 3) := by decide +kernel
theorem d_M_digest_36 : decode c_M_digest 36 = .ok (.iconst 0, 1) := by decide +kernel
theorem d_M_digest_37 : decode c_M_digest 37 = .ok (.istore_n 3, 1) := by decide +kernel
theorem d_M_digest_38 : decode c_M_digest 38 = .ok (.iload_n 3, 1) := by decide +kernel
theorem d_M_digest_39 : decode c_M_digest 39 = .ok (.bipush 8, 2) := by decide +kernel
theorem d_M_digest_41 : decode c_M_digest 41 = .ok (.if_icmp .ge 63, 3) := by decide +kernel
theorem d_M_digest_44 : decode c_M_digest 44 = .ok (.lload_n 1, 1) := by decide +kernel
theorem d_M_digest_45 : decode c_M_digest 45 = .ok (.ldc2_w 176, 3) := by decide +kernel
theorem d_M_digest_48 : decode c_M_digest 48 = .ok (.lmul, 1) := by decide +kernel
theorem d_M_digest_49 : decode c_M_digest 49 = .ok (.aload_n 0, 1) := by decide +kernel
theorem d_M_digest_50 : decode c_M_digest 50 = .ok (.getfield 16, 3) := by decide +kernel
theorem d_M_digest_53 : decode c_M_digest 53 = .ok (.iload_n 3, 1) := by decide +kernel
theorem d_M_digest_54 : decode c_M_digest 54 = .ok (.iaload, 1) := by decide +kernel
theorem d_M_digest_55 : decode c_M_digest 55 = .ok (.i2l, 1) := by decide +kernel
theorem d_M_digest_56 : decode c_M_digest 56 = .ok (.ladd, 1) := by decide +kernel
theorem d_M_digest_57 : decode c_M_digest 57 = .ok (.lstore_n 1, 1) := by decide +kernel
theorem d_M_digest_58 : decode c_M_digest 58 = .ok (.iconst 0, 1) := by decide +kernel
theorem d_M_digest_59 : decode c_M_digest 59 = .ok (.istore 4, 2) := by decide +kernel
theorem d_M_digest_61 : decode c_M_digest 61 = .ok (.iload 4, 2) := by decide +kernel
theorem d_M_digest_63 : decode c_M_digest 63 = .ok (.aload_n 0, 1) := by decide +kernel
theorem d_M_digest_64 : decode c_M_digest 64 = .ok (.getfield 16, 3) := by decide +kernel
theorem d_M_digest_67 : decode c_M_digest 67 = .ok (.iload_n 3, 1) := by decide +kernel
theorem d_M_digest_68 : decode c_M_digest 68 = .ok (.iaload, 1) := by decide +kernel
theorem d_M_digest_69 : decode c_M_digest 69 = .ok (.if_icmp .ge 29, 3) := by decide +kernel
theorem d_M_digest_72 : decode c_M_digest 72 = .ok (.lload_n 1, 1) := by decide +kernel
theorem d_M_digest_73 : decode c_M_digest 73 = .ok (.ldc2_w 176, 3) := by decide +kernel
theorem d_M_digest_76 : decode c_M_digest 76 = .ok (.lmul, 1) := by decide +kernel
theorem d_M_digest_77 : decode c_M_digest 77 = .ok (.aload_n 0, 1) := by decide +kernel
theorem d_M_digest_78 : decode c_M_digest 78 = .ok (.getfield 13, 3) := by decide +kernel
theorem d_M_digest_81 : decode c_M_digest 81 = .ok (.bipush 24, 2) := by decide +kernel
theorem d_M_digest_83 : decode c_M_digest 83 = .ok (.iload_n 3, 1) := by decide +kernel
theorem d_M_digest_84 : decode c_M_digest 84 = .ok (.imul, 1) := by decide +kernel
theorem d_M_digest_85 : decode c_M_digest 85 = .ok (.iload 4, 2) := by decide +kernel
theorem d_M_digest_87 : decode c_M_digest 87 = .ok (.iadd, 1) := by decide +kernel
theorem d_M_digest_88 : decode c_M_digest 88 = .ok (.iaload, 1) := by decide +kernel
theorem d_M_digest_89 : decode c_M_digest 89 = .ok (.i2l, 1) := by decide +kernel
theorem d_M_digest_90 : decode c_M_digest 90 = .ok (.ladd, 1) := by decide +kernel
theorem d_M_digest_91 : decode c_M_digest 91 = .ok (.lstore_n 1, 1) := by decide +kernel
theorem d_M_digest_92 : decode c_M_digest 92 = .ok (.iinc 4 1, 3) := by decide +kernel
theorem d_M_digest_95 : decode c_M_digest 95 = .ok (.goto (-34), 3) := by decide +kernel
theorem d_M_digest_98 : decode c_M_digest 98 = .ok (.iinc 3 1, 3) := by decide +kernel
theorem d_M_digest_101 : decode c_M_digest 101 = .ok (.goto (-63), 3) := by decide +kernel
theorem d_M_digest_104 : decode c_M_digest 104 = .ok (.iconst 0, 1) := by decide +kernel
theorem d_M_digest_105 : decode c_M_digest 105 = .ok (.istore_n 3, 1) := by decide +kernel
theorem d_M_digest_106 : decode c_M_digest 106 = .ok (.iload_n 3, 1) := by decide +kernel
theorem d_M_digest_107 : decode c_M_digest 107 = .ok (.aload_n 0, 1) := by decide +kernel
theorem d_M_digest_108 : decode c_M_digest 108 = .ok (.getfield 24, 3) := by decide +kernel
theorem d_M_digest_111 : decode c_M_digest 111 = .ok (.getfield 72, 3) := by decide +kernel
theorem d_M_digest_114 : decode c_M_digest 114 = .ok (.if_icmp .ge 40, 3) := by decide +kernel
theorem d_M_digest_117 : decode c_M_digest 117 = .ok (.iconst 0, 1) := by decide +kernel
theorem d_M_digest_118 : decode c_M_digest 118 = .ok (.istore 4, 2) := by decide +kernel
theorem d_M_digest_120 : decode c_M_digest 120 = .ok (.iload 4, 2) := by decide +kernel
theorem d_M_digest_122 : decode c_M_digest 122 = .ok (.bipush 12, 2) := by decide +kernel
theorem d_M_digest_124 : decode c_M_digest 124 = .ok (.if_icmp .ge 24, 3) := by decide +kernel
theorem d_M_digest_127 : decode c_M_digest 127 = .ok (.lload_n 1, 1) := by decide +kernel
theorem d_M_digest_128 : decode c_M_digest 128 = .ok (.ldc2_w 176, 3) := by decide +kernel
theorem d_M_digest_131 : decode c_M_digest 131 = .ok (.lmul, 1) := by decide +kernel
theorem d_M_digest_132 : decode c_M_digest 132 = .ok (.aload_n 0, 1) := by decide +kernel
theorem d_M_digest_133 : decode c_M_digest 133 = .ok (.iload_n 3, 1) := by decide +kernel
theorem d_M_digest_134 : decode c_M_digest 134 = .ok (.iload 4, 2) := by decide +kernel
theorem d_M_digest_136 : decode c_M_digest 136 = .ok (.invokevirtual 140, 3) := by decide +kernel
theorem d_M_digest_139 : decode c_M_digest 139 = .ok (.i2l, 1) := by decide +kernel
theorem d_M_digest_140 : decode c_M_digest 140 = .ok (.ladd, 1) := by decide +kernel
theorem d_M_digest_141 : decode c_M_digest 141 = .ok (.lstore_n 1, 1) := by decide +kernel
theorem d_M_digest_142 : decode c_M_digest 142 = .ok (.iinc 4 1, 3) := by decide +kernel
theorem d_M_digest_145 : decode c_M_digest 145 = .ok (.goto (-25), 3) := by decide +kernel
theorem d_M_digest_148 : decode c_M_digest 148 = .ok (.iinc 3 1, 3) := by decide +kernel
theorem d_M_digest_151 : decode c_M_digest 151 = .ok (.goto (-45), 3) := by decide +kernel
theorem d_M_digest_154 : decode c_M_digest 154 = .ok (.iconst 0, 1) := by decide +kernel
theorem d_M_digest_155 : decode c_M_digest 155 = .ok (.istore_n 3, 1) := by decide +kernel
theorem d_M_digest_156 : decode c_M_digest 156 = .ok (.iload_n 3, 1) := by decide +kernel
theorem d_M_digest_157 : decode c_M_digest 157 = .ok (.aload_n 0, 1) := by decide +kernel
theorem d_M_digest_158 : decode c_M_digest 158 = .ok (.getfield 24, 3) := by decide +kernel
theorem d_M_digest_161 : decode c_M_digest 161 = .ok (.getfield 143, 3) := by decide +kernel
theorem d_M_digest_164 : decode c_M_digest 164 = .ok (.if_icmp .ge 40, 3) := by decide +kernel
theorem d_M_digest_167 : decode c_M_digest 167 = .ok (.iconst 0, 1) := by decide +kernel
theorem d_M_digest_168 : decode c_M_digest 168 = .ok (.istore 4, 2) := by decide +kernel
theorem d_M_digest_170 : decode c_M_digest 170 = .ok (.iload 4, 2) := by decide +kernel
theorem d_M_digest_172 : decode c_M_digest 172 = .ok (.bipush 6, 2) := by decide +kernel
theorem d_M_digest_174 : decode c_M_digest 174 = .ok (.if_icmp .ge 24, 3) := by decide +kernel
theorem d_M_digest_177 : decode c_M_digest 177 = .ok (.lload_n 1, 1) := by decide +kernel
theorem d_M_digest_178 : decode c_M_digest 178 = .ok (.ldc2_w 176, 3) := by decide +kernel
theorem d_M_digest_181 : decode c_M_digest 181 = .ok (.lmul, 1) := by decide +kernel
theorem d_M_digest_182 : decode c_M_digest 182 = .ok (.aload_n 0, 1) := by decide +kernel
theorem d_M_digest_183 : decode c_M_digest 183 = .ok (.iload_n 3, 1) := by decide +kernel
theorem d_M_digest_184 : decode c_M_digest 184 = .ok (.iload 4, 2) := by decide +kernel
theorem d_M_digest_186 : decode c_M_digest 186 = .ok (.invokevirtual 155, 3) := by decide +kernel
theorem d_M_digest_189 : decode c_M_digest 189 = .ok (.i2l, 1) := by decide +kernel
theorem d_M_digest_190 : decode c_M_digest 190 = .ok (.ladd, 1) := by decide +kernel
theorem d_M_digest_191 : decode c_M_digest 191 = .ok (.lstore_n 1, 1) := by decide +kernel
theorem d_M_digest_192 : decode c_M_digest 192 = .ok (.iinc 4 1, 3) := by decide +kernel
theorem d_M_digest_195 : decode c_M_digest 195 = .ok (.goto (-25), 3) := by decide +kernel
theorem d_M_digest_198 : decode c_M_digest 198 = .ok (.iinc 3 1, 3) := by decide +kernel
theorem d_M_digest_201 : decode c_M_digest 201 = .ok (.goto (-45), 3) := by decide +kernel
theorem d_M_digest_204 : decode c_M_digest 204 = .ok (.lload_n 1, 1) := by decide +kernel
theorem d_M_digest_205 : decode c_M_digest 205 = .ok (.lreturn, 1) := by decide +kernel
