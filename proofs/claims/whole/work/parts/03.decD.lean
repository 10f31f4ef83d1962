theorem d_D_init_0 : decode c_D_init 0 = .ok (.aload_n 0, 1) := by decide +kernel
theorem d_D_init_1 : decode c_D_init 1 = .ok (.invokespecial 3, 3) := by decide +kernel
theorem d_D_init_4 : decode c_D_init 4 = .ok (.aload_n 0, 1) := by decide +kernel
theorem d_D_init_5 : decode c_D_init 5 = .ok (.bipush 24, 2) := by decide +kernel
theorem d_D_init_7 : decode c_D_init 7 = .ok (.newarray .byte, 2) := by decide +kernel
theorem d_D_init_9 : decode c_D_init 9 = .ok (.putfield 9, 3) := by decide +kernel
theorem d_D_init_12 : decode c_D_init 12 = .ok (.aload_n 0, 1) := by decide +kernel
theorem d_D_init_13 : decode c_D_init 13 = .ok (.iload_n 1, 1) := by decide +kernel
theorem d_D_init_14 : decode c_D_init 14 = .ok (.putfield 15, 3) := by decide +kernel
theorem d_D_init_17 : decode c_D_init 17 = .ok (.iconst 0, 1) := by decide +kernel
theorem d_D_init_18 : decode c_D_init 18 = .ok (.istore_n 3, 1) := by decide +kernel
theorem d_D_init_19 : decode c_D_init 19 = .ok (.iload_n 3, 1) := by decide +kernel
theorem d_D_init_20 : decode c_D_init 20 = .ok (.aload_n 2, 1) := by decide +kernel
theorem d_D_init_21 : decode c_D_init 21 = .ok (.invokevirtual 19, 3) := by decide +kernel
theorem d_D_init_24 : decode c_D_init 24 = .ok (.if_icmp .ge 37, 3) := by decide +kernel
theorem d_D_init_27 : decode c_D_init 27 = .ok (.iload_n 3, 1) := by decide +kernel
theorem d_D_init_28 : decode c_D_init 28 = .ok (.aload_n 0, 1) := by decide +kernel
theorem d_D_init_29 : decode c_D_init 29 = .ok (.getfield 9, 3) := by decide +kernel
theorem d_D_init_32 : decode c_D_init 32 = .ok (.arraylength, 1) := by decide +kernel
theorem d_D_init_33 : decode c_D_init 33 = .ok (.if_icmp .ge 28, 3) := by decide +kernel
theorem d_D_init_36 : decode c_D_init 36 = .ok (.aload_n 0, 1) := by decide +kernel
theorem d_D_init_37 : decode c_D_init 37 = .ok (.getfield 9, 3) := by decide +kernel
theorem d_D_init_40 : decode c_D_init 40 = .ok (.iload_n 3, 1) := by decide +kernel
theorem d_D_init_41 : decode c_D_init 41 = .ok (.aload_n 2, 1) := by decide +kernel
theorem d_D_init_42 : decode c_D_init 42 = .ok (.iload_n 3, 1) := by decide +kernel
theorem d_D_init_43 : decode c_D_init 43 = .ok (.invokevirtual 25, 3) := by decide +kernel
theorem d_D_init_46 : decode c_D_init 46 = .ok (.i2b, 1) := by decide +kernel
theorem d_D_init_47 : decode c_D_init 47 = .ok (.bastore, 1) := by decide +kernel
theorem d_D_init_48 : decode c_D_init 48 = .ok (.aload_n 0, 1) := by decide +kernel
theorem d_D_init_49 : decode c_D_init 49 = .ok (.iload_n 3, 1) := by decide +kernel
theorem d_D_init_50 : decode c_D_init 50 = .ok (.iconst 1, 1) := by decide +kernel
theorem d_D_init_51 : decode c_D_init 51 = .ok (.iadd, 1) := by decide +kernel
theorem d_D_init_52 : decode c_D_init 52 = .ok (.putfield 29, 3) := by decide +kernel
theorem d_D_init_55 : decode c_D_init 55 = .ok (.iinc 3 1, 3) := by decide +kernel
theorem d_D_init_58 : decode c_D_init 58 = .ok (.goto (-39), 3) := by decide +kernel
theorem d_D_init_61 : decode c_D_init 61 = .ok (.return_, 1) := by decide +kernel
theorem d_D_takeFrom_0 : decode c_D_takeFrom 0 = .ok (.aload_n 1, 1) := by decide +kernel
theorem d_D_takeFrom_1 : decode c_D_takeFrom 1 = .ok (.invokevirtual 31, 3) := by decide +kernel
theorem d_D_takeFrom_4 : decode c_D_takeFrom 4 = .ok (.ifCond .ne 5, 3) := by decide +kernel
theorem d_D_takeFrom_7 : decode c_D_takeFrom 7 = .ok (.iconst 0, 1) := by decide +kernel
theorem d_D_takeFrom_8 : decode c_D_takeFrom 8 = .ok (.ireturn, 1) := by decide +kernel
theorem d_D_takeFrom_9 : decode c_D_takeFrom 9 = .ok (.aload_n 0, 1) := by decide +kernel
theorem d_D_takeFrom_10 : decode c_D_takeFrom 10 = .ok (.aload_n 1, 1) := by decide +kernel
theorem d_D_takeFrom_11 : decode c_D_takeFrom 11 = .ok (.getfield 37, 3) := by decide +kernel
theorem d_D_takeFrom_14 : decode c_D_takeFrom 14 = .ok (.aload_n 0, 1) := by decide +kernel
theorem d_D_takeFrom_15 : decode c_D_takeFrom 15 = .ok (.getfield 9, 3) := by decide +kernel
theorem d_D_takeFrom_18 : decode c_D_takeFrom 18 = .ok (.arraylength, 1) := by decide +kernel
theorem d_D_takeFrom_19 : decode c_D_takeFrom 19 = .ok (.invokestatic 38, 3) := by decide +kernel
theorem d_D_takeFrom_22 : decode c_D_takeFrom 22 = .ok (.putfield 29, 3) := by decide +kernel
theorem d_D_takeFrom_25 : decode c_D_takeFrom 25 = .ok (.iconst 0, 1) := by decide +kernel
theorem d_D_takeFrom_26 : decode c_D_takeFrom 26 = .ok (.istore_n 2, 1) := by decide +kernel
theorem d_D_takeFrom_27 : decode c_D_takeFrom 27 = .ok (.iload_n 2, 1) := by decide +kernel
theorem d_D_takeFrom_28 : decode c_D_takeFrom 28 = .ok (.aload_n 0, 1) := by decide +kernel
theorem d_D_takeFrom_29 : decode c_D_takeFrom 29 = .ok (.getfield 29, 3) := by decide +kernel
theorem d_D_takeFrom_32 : decode c_D_takeFrom 32 = .ok (.if_icmp .ge 39, 3) := by decide +kernel
theorem d_D_takeFrom_35 : decode c_D_takeFrom 35 = .ok (.iload_n 2, 1) := by decide +kernel
theorem d_D_takeFrom_36 : decode c_D_takeFrom 36 = .ok (.aload_n 0, 1) := by decide +kernel
theorem d_D_takeFrom_37 : decode c_D_takeFrom 37 = .ok (.getfield 9, 3) := by decide +kernel
theorem d_D_takeFrom_40 : decode c_D_takeFrom 40 = .ok (.arraylength, 1) := by decide +kernel
theorem d_D_takeFrom_41 : decode c_D_takeFrom 41 = .ok (.if_icmp .ge 30, 3) := by decide +kernel
theorem d_D_takeFrom_44 : decode c_D_takeFrom 44 = .ok (.iload_n 2, 1) := by decide +kernel
theorem d_D_takeFrom_45 : decode c_D_takeFrom 45 = .ok (.aload_n 1, 1) := by decide +kernel
theorem d_D_takeFrom_46 : decode c_D_takeFrom 46 = .ok (.getfield 44, 3) := by decide +kernel
theorem d_D_takeFrom_49 : decode c_D_takeFrom 49 = .ok (.arraylength, 1) := by decide +kernel
theorem d_D_takeFrom_50 : decode c_D_takeFrom 50 = .ok (.if_icmp .ge 21, 3) := by decide +kernel
theorem d_D_takeFrom_53 : decode c_D_takeFrom 53 = .ok (.aload_n 0, 1) := by decide +kernel
theorem d_D_takeFrom_54 : decode c_D_takeFrom 54 = .ok (.getfield 9, 3) := by decide +kernel
theorem d_D_takeFrom_57 : decode c_D_takeFrom 57 = .ok (.iload_n 2, 1) := by decide +kernel
theorem d_D_takeFrom_58 : decode c_D_takeFrom 58 = .ok (.aload_n 1, 1) := by decide +kernel
theorem d_D_takeFrom_59 : decode c_D_takeFrom 59 = .ok (.getfield 44, 3) := by decide +kernel
theorem d_D_takeFrom_62 : decode c_D_takeFrom 62 = .ok (.iload_n 2, 1) := by decide +kernel
theorem d_D_takeFrom_63 : decode c_D_takeFrom 63 = .ok (.baload, 1) := by decide +kernel
theorem d_D_takeFrom_64 : decode c_D_takeFrom 64 = .ok (.bastore, 1) := by decide +kernel
theorem d_D_takeFrom_65 : decode c_D_takeFrom 65 = .ok (.iinc 2 1, 3) := by decide +kernel
theorem d_D_takeFrom_68 : decode c_D_takeFrom 68 = .ok (.goto (-41), 3) := by decide +kernel
theorem d_D_takeFrom_71 : decode c_D_takeFrom 71 = .ok (.iconst 1, 1) := by decide +kernel
theorem d_D_takeFrom_72 : decode c_D_takeFrom 72 = .ok (.ireturn, 1) := by decide +kernel
theorem d_D_figureAt_0 : decode c_D_figureAt 0 = .ok (.iload_n 1, 1) := by decide +kernel
theorem d_D_figureAt_1 : decode c_D_figureAt 1 = .ok (.ifCond .lt 29, 3) := by decide +kernel
theorem d_D_figureAt_4 : decode c_D_figureAt 4 = .ok (.iload_n 1, 1) := by decide +kernel
theorem d_D_figureAt_5 : decode c_D_figureAt 5 = .ok (.aload_n 0, 1) := by decide +kernel
theorem d_D_figureAt_6 : decode c_D_figureAt 6 = .ok (.getfield 29, 3) := by decide +kernel
theorem d_D_figureAt_9 : decode c_D_figureAt 9 = .ok (.if_icmp .ge 21, 3) := by decide +kernel
theorem d_D_figureAt_12 : decode c_D_figureAt 12 = .ok (.iload_n 1, 1) := by decide +kernel
theorem d_D_figureAt_13 : decode c_D_figureAt 13 = .ok (.aload_n 0, 1) := by decide +kernel
theorem d_D_figureAt_14 : decode c_D_figureAt 14 = .ok (.getfield 9, 3) := by decide +kernel
theorem d_D_figureAt_17 : decode c_D_figureAt 17 = .ok (.arraylength, 1) := by decide +kernel
theorem d_D_figureAt_18 : decode c_D_figureAt 18 = .ok (.if_icmp .ge 12, 3) := by decide +kernel
theorem d_D_figureAt_21 : decode c_D_figureAt 21 = .ok (.aload_n 0, 1) := by decide +kernel
theorem d_D_figureAt_22 : decode c_D_figureAt 22 = .ok (.getfield 9, 3) := by decide +kernel
theorem d_D_figureAt_25 : decode c_D_figureAt 25 = .ok (.iload_n 1, 1) := by decide +kernel
theorem d_D_figureAt_26 : decode c_D_figureAt 26 = .ok (.baload, 1) := by decide +kernel
theorem d_D_figureAt_27 : decode c_D_figureAt 27 = .ok (.goto 5, 3) := by decide +kernel
theorem d_D_figureAt_30 : decode c_D_figureAt 30 = .ok (.bipush 119, 2) := by decide +kernel
theorem d_D_figureAt_32 : decode c_D_figureAt 32 = .ok (.ireturn, 1) := by decide +kernel
theorem d_D_placeBehind_0 : decode c_D_placeBehind 0 = .ok (.iload_n 1, 1) := by decide +kernel
theorem d_D_placeBehind_1 : decode c_D_placeBehind 1 = .ok (.iconst 1, 1) := by decide +kernel
theorem d_D_placeBehind_2 : decode c_D_placeBehind 2 = .ok (.iadd, 1) := by decide +kernel
theorem d_D_placeBehind_3 : decode c_D_placeBehind 3 = .ok (.aload_n 0, 1) := by decide +kernel
theorem d_D_placeBehind_4 : decode c_D_placeBehind 4 = .ok (.getfield 29, 3) := by decide +kernel
theorem d_D_placeBehind_7 : decode c_D_placeBehind 7 = .ok (.if_icmp .ge 9, 3) := by decide +kernel
theorem d_D_placeBehind_10 : decode c_D_placeBehind 10 = .ok (.iload_n 1, 1) := by decide +kernel
theorem d_D_placeBehind_11 : decode c_D_placeBehind 11 = .ok (.iconst 1, 1) := by decide +kernel
theorem d_D_placeBehind_12 : decode c_D_placeBehind 12 = .ok (.iadd, 1) := by decide +kernel
theorem d_D_placeBehind_13 : decode c_D_placeBehind 13 = .ok (.goto 4, 3) := by decide +kernel
theorem d_D_placeBehind_16 : decode c_D_placeBehind 16 = .ok (.iconst 0, 1) := by decide +kernel
theorem d_D_placeBehind_17 : decode c_D_placeBehind 17 = .ok (.ireturn, 1) := by decide +kernel
theorem d_D_driftOf_0 : decode c_D_driftOf 0 = .ok (.iconst 0, 1) := by decide +kernel
theorem d_D_driftOf_1 : decode c_D_driftOf 1 = .ok (.istore_n 2, 1) := by decide +kernel
theorem d_D_driftOf_2 : decode c_D_driftOf 2 = .ok (.iconst 0, 1) := by decide +kernel
theorem d_D_driftOf_3 : decode c_D_driftOf 3 = .ok (.istore_n 3, 1) := by decide +kernel
theorem d_D_driftOf_4 : decode c_D_driftOf 4 = .ok (.iconst 0, 1) := by decide +kernel
theorem d_D_driftOf_5 : decode c_D_driftOf 5 = .ok (.istore 4, 2) := by decide +kernel
theorem d_D_driftOf_7 : decode c_D_driftOf 7 = .ok (.iconst 0, 1) := by decide +kernel
theorem d_D_driftOf_8 : decode c_D_driftOf 8 = .ok (.istore 5, 2) := by decide +kernel
theorem d_D_driftOf_10 : decode c_D_driftOf 10 = .ok (.iload 5, 2) := by decide +kernel
theorem d_D_driftOf_12 : decode c_D_driftOf 12 = .ok (.aload_n 0, 1) := by decide +kernel
theorem d_D_driftOf_13 : decode c_D_driftOf 13 = .ok (.getfield 29, 3) := by decide +kernel
theorem d_D_driftOf_16 : decode c_D_driftOf 16 = .ok (.if_icmp .ge 65, 3) := by decide +kernel
theorem d_D_driftOf_19 : decode c_D_driftOf 19 = .ok (.aload_n 0, 1) := by decide +kernel
theorem d_D_driftOf_20 : decode c_D_driftOf 20 = .ok (.iload 5, 2) := by decide +kernel
theorem d_D_driftOf_22 : decode c_D_driftOf 22 = .ok (.invokevirtual 47, 3) := by decide +kernel
theorem d_D_driftOf_25 : decode c_D_driftOf 25 = .ok (.istore 6, 2) := by decide +kernel
theorem d_D_driftOf_27 : decode c_D_driftOf 27 = .ok (.iload 6, 2) := by decide +kernel
theorem d_D_driftOf_29 : decode c_D_driftOf 29 = .ok (.invokestatic 51, 3) := by decide +kernel
theorem d_D_driftOf_32 : decode c_D_driftOf 32 = .ok (.ifCond .eq 31, 3) := by decide +kernel
theorem d_D_driftOf_35 : decode c_D_driftOf 35 = .ok (.iload 4, 2) := by decide +kernel
theorem d_D_driftOf_37 : decode c_D_driftOf 37 = .ok (.iload 6, 2) := by decide +kernel
theorem d_D_driftOf_39 : decode c_D_driftOf 39 = .ok (.invokestatic 55, 3) := by decide +kernel
theorem d_D_driftOf_42 : decode c_D_driftOf 42 = .ok (.invokestatic 58, 3) := by decide +kernel
theorem d_D_driftOf_45 : decode c_D_driftOf 45 = .ok (.istore 7, 2) := by decide +kernel
theorem d_D_driftOf_47 : decode c_D_driftOf 47 = .ok (.iload_n 2, 1) := by decide +kernel
theorem d_D_driftOf_48 : decode c_D_driftOf 48 = .ok (.iload 7, 2) := by decide +kernel
theorem d_D_driftOf_50 : decode c_D_driftOf 50 = .ok (.invokestatic 61, 3) := by decide +kernel
theorem d_D_driftOf_53 : decode c_D_driftOf 53 = .ok (.iadd, 1) := by decide +kernel
theorem d_D_driftOf_54 : decode c_D_driftOf 54 = .ok (.istore_n 2, 1) := by decide +kernel
theorem d_D_driftOf_55 : decode c_D_driftOf 55 = .ok (.iload_n 3, 1) := by decide +kernel
theorem d_D_driftOf_56 : decode c_D_driftOf 56 = .ok (.iload 7, 2) := by decide +kernel
theorem d_D_driftOf_58 : decode c_D_driftOf 58 = .ok (.invokestatic 64, 3) := by decide +kernel
theorem d_D_driftOf_61 : decode c_D_driftOf 61 = .ok (.iadd, 1) := by decide +kernel
theorem d_D_driftOf_62 : decode c_D_driftOf 62 = .ok (.istore_n 3, 1) := by decide +kernel
theorem d_D_driftOf_63 : decode c_D_driftOf 63 = .ok (.iload 4, 2) := by decide +kernel
theorem d_D_driftOf_65 : decode c_D_driftOf 65 = .ok (.iload 6, 2) := by decide +kernel
theorem d_D_driftOf_67 : decode c_D_driftOf 67 = .ok (.invokestatic 67, 3) := by decide +kernel
theorem d_D_driftOf_70 : decode c_D_driftOf 70 = .ok (.invokestatic 58, 3) := by decide +kernel
theorem d_D_driftOf_73 : decode c_D_driftOf 73 = .ok (.istore 4, 2) := by decide +kernel
theorem d_D_driftOf_75 : decode c_D_driftOf 75 = .ok (.iinc 5 1, 3) := by decide +kernel
theorem d_D_driftOf_78 : decode c_D_driftOf 78 = .ok (.goto (-68), 3) := by decide +kernel
theorem d_D_driftOf_81 : decode c_D_driftOf 81 = .ok (.iload_n 1, 1) := by decide +kernel
theorem d_D_driftOf_82 : decode c_D_driftOf 82 = .ok (.tableswitch 33 0 2 #[26, 28, 30], 26) := by decide +kernel
theorem d_D_driftOf_108 : decode c_D_driftOf 108 = .ok (.iload_n 2, 1) := by decide +kernel
theorem d_D_driftOf_109 : decode c_D_driftOf 109 = .ok (.ireturn, 1) := by decide +kernel
theorem d_D_driftOf_110 : decode c_D_driftOf 110 = .ok (.iload_n 3, 1) := by decide +kernel
theorem d_D_driftOf_111 : decode c_D_driftOf 111 = .ok (.ireturn, 1) := by decide +kernel
theorem d_D_driftOf_112 : decode c_D_driftOf 112 = .ok (.iload 4, 2) := by decide +kernel
theorem d_D_driftOf_114 : decode c_D_driftOf 114 = .ok (.ireturn, 1) := by decide +kernel
theorem d_D_driftOf_115 : decode c_D_driftOf 115 = .ok (.iload_n 2, 1) := by decide +kernel
theorem d_D_driftOf_116 : decode c_D_driftOf 116 = .ok (.iload_n 3, 1) := by decide +kernel
theorem d_D_driftOf_117 : decode c_D_driftOf 117 = .ok (.iload 4, 2) := by decide +kernel
theorem d_D_driftOf_119 : decode c_D_driftOf 119 = .ok (.invokestatic 70, 3) := by decide +kernel
theorem d_D_driftOf_122 : decode c_D_driftOf 122 = .ok (.ireturn, 1) := by decide +kernel
theorem d_D_roundsToStart_0 : decode c_D_roundsToStart 0 = .ok (.iload_n 2, 1) := by decide +kernel
theorem d_D_roundsToStart_1 : decode c_D_roundsToStart 1 = .ok (.ifCond .ne 17, 3) := by decide +kernel
theorem d_D_roundsToStart_4 : decode c_D_roundsToStart 4 = .ok (.iload_n 0, 1) := by decide +kernel
theorem d_D_roundsToStart_5 : decode c_D_roundsToStart 5 = .ok (.ifCond .ne 11, 3) := by decide +kernel
theorem d_D_roundsToStart_8 : decode c_D_roundsToStart 8 = .ok (.iload_n 1, 1) := by decide +kernel
theorem d_D_roundsToStart_9 : decode c_D_roundsToStart 9 = .ok (.ifCond .ne 7, 3) := by decide +kernel
theorem d_D_roundsToStart_12 : decode c_D_roundsToStart 12 = .ok (.iconst 1, 1) := by decide +kernel
theorem d_D_roundsToStart_13 : decode c_D_roundsToStart 13 = .ok (.goto 4, 3) := by decide +kernel
theorem d_D_roundsToStart_16 : decode c_D_roundsToStart 16 = .ok (.iconst (-1), 1) := by decide +kernel
theorem d_D_roundsToStart_17 : decode c_D_roundsToStart 17 = .ok (.ireturn, 1) := by decide +kernel
theorem d_D_roundsToStart_18 : decode c_D_roundsToStart 18 = .ok (.iload_n 2, 1) := by decide +kernel
theorem d_D_roundsToStart_19 : decode c_D_roundsToStart 19 = .ok (.iconst 2, 1) := by decide +kernel
theorem d_D_roundsToStart_20 : decode c_D_roundsToStart 20 = .ok (.if_icmp .ne 7, 3) := by decide +kernel
theorem d_D_roundsToStart_23 : decode c_D_roundsToStart 23 = .ok (.iconst 2, 1) := by decide +kernel
theorem d_D_roundsToStart_24 : decode c_D_roundsToStart 24 = .ok (.goto 4, 3) := by decide +kernel
theorem d_D_roundsToStart_27 : decode c_D_roundsToStart 27 = .ok (.iconst 4, 1) := by decide +kernel
theorem d_D_roundsToStart_28 : decode c_D_roundsToStart 28 = .ok (.ireturn, 1) := by decide +kernel
theorem d_D_digestFrom_0 : decode c_D_digestFrom 0 = .ok (.lload_n 1, 1) := by decide +kernel
theorem d_D_digestFrom_1 : decode c_D_digestFrom 1 = .ok (.ldc2_w 74, 3) := by decide +kernel
theorem d_D_digestFrom_4 : decode c_D_digestFrom 4 = .ok (.lmul, 1) := by decide +kernel
theorem d_D_digestFrom_5 : decode c_D_digestFrom 5 = .ok (.aload_n 0, 1) := by decide +kernel
theorem d_D_digestFrom_6 : decode c_D_digestFrom 6 = .ok (.getfield 29, 3) := by decide +kernel
theorem d_D_digestFrom_9 : decode c_D_digestFrom 9 = .ok (.i2l, 1) := by decide +kernel
theorem d_D_digestFrom_10 : decode c_D_digestFrom 10 = .ok (.ladd, 1) := by decide +kernel
theorem d_D_digestFrom_11 : decode c_D_digestFrom 11 = .ok (.lstore_n 3, 1) := by decide +kernel
theorem d_D_digestFrom_12 : decode c_D_digestFrom 12 = .ok (.iconst 0, 1) := by decide +kernel
theorem d_D_digestFrom_13 : decode c_D_digestFrom 13 = .ok (.istore 5, 2) := by decide +kernel
theorem d_D_digestFrom_15 : decode c_D_digestFrom 15 = .ok (.iload 5, 2) := by decide +kernel
theorem d_D_digestFrom_17 : decode c_D_digestFrom 17 = .ok (.aload_n 0, 1) := by decide +kernel
theorem d_D_digestFrom_18 : decode c_D_digestFrom 18 = .ok (.getfield 29, 3) := by decide +kernel
theorem d_D_digestFrom_21 : decode c_D_digestFrom 21 = .ok (.if_icmp .ge 23, 3) := by decide +kernel
theorem d_D_digestFrom_24 : decode c_D_digestFrom 24 = .ok (.lload_n 3, 1) := by decide +kernel
theorem d_D_digestFrom_25 : decode c_D_digestFrom 25 = .ok (.ldc2_w 74, 3) := by decide +kernel
theorem d_D_digestFrom_28 : decode c_D_digestFrom 28 = .ok (.lmul, 1) := by decide +kernel
theorem d_D_digestFrom_29 : decode c_D_digestFrom 29 = .ok (.aload_n 0, 1) := by decide +kernel
theorem d_D_digestFrom_30 : decode c_D_digestFrom 30 = .ok (.iload 5, 2) := by decide +kernel
theorem d_D_digestFrom_32 : decode c_D_digestFrom 32 = .ok (.invokevirtual 47, 3) := by decide +kernel
theorem d_D_digestFrom_35 : decode c_D_digestFrom 35 = .ok (.i2l, 1) := by decide +kernel
theorem d_D_digestFrom_36 : decode c_D_digestFrom 36 = .ok (.ladd, 1) := by decide +kernel
theorem d_D_digestFrom_37 : decode c_D_digestFrom 37 = .ok (.lstore_n 3, 1) := by decide +kernel
theorem d_D_digestFrom_38 : decode c_D_digestFrom 38 = .ok (.iinc 5 1, 3) := by decide +kernel
theorem d_D_digestFrom_41 : decode c_D_digestFrom 41 = .ok (.goto (-26), 3) := by decide +kernel
theorem d_D_digestFrom_44 : decode c_D_digestFrom 44 = .ok (.lload_n 3, 1) := by decide +kernel
theorem d_D_digestFrom_45 : decode c_D_digestFrom 45 = .ok (.lreturn, 1) := by decide +kernel
theorem d_T_init_0 : decode c_T_init 0 = .ok (.aload_n 0, 1) := by decide +kernel
theorem d_T_init_1 : decode c_T_init 1 = .ok (.invokespecial 3, 3) := by decide +kernel
theorem d_T_init_4 : decode c_T_init 4 = .ok (.aload_n 0, 1) := by decide +kernel
theorem d_T_init_5 : decode c_T_init 5 = .ok (.bipush 40, 2) := by decide +kernel
theorem d_T_init_7 : decode c_T_init 7 = .ok (.newarray .byte, 2) := by decide +kernel
theorem d_T_init_9 : decode c_T_init 9 = .ok (.putfield 9, 3) := by decide +kernel
theorem d_T_init_12 : decode c_T_init 12 = .ok (.return_, 1) := by decide +kernel
theorem d_T_bytesLeft_0 : decode c_T_bytesLeft 0 = .ok (.aload_n 0, 1) := by decide +kernel
theorem d_T_bytesLeft_1 : decode c_T_bytesLeft 1 = .ok (.getfield 9, 3) := by decide +kernel
theorem d_T_bytesLeft_4 : decode c_T_bytesLeft 4 = .ok (.arraylength, 1) := by decide +kernel
theorem d_T_bytesLeft_5 : decode c_T_bytesLeft 5 = .ok (.aload_n 0, 1) := by decide +kernel
theorem d_T_bytesLeft_6 : decode c_T_bytesLeft 6 = .ok (.getfield 15, 3) := by decide +kernel
theorem d_T_bytesLeft_9 : decode c_T_bytesLeft 9 = .ok (.isub, 1) := by decide +kernel
theorem d_T_bytesLeft_10 : decode c_T_bytesLeft 10 = .ok (.ireturn, 1) := by decide +kernel
theorem d_T_append_0 : decode c_T_append 0 = .ok (.bipush 24, 2) := by decide +kernel
theorem d_T_append_2 : decode c_T_append 2 = .ok (.istore_n 2, 1) := by decide +kernel
theorem d_T_append_3 : decode c_T_append 3 = .ok (.iload_n 2, 1) := by decide +kernel
theorem d_T_append_4 : decode c_T_append 4 = .ok (.ifCond .lt 51, 3) := by decide +kernel
theorem d_T_append_7 : decode c_T_append 7 = .ok (.aload_n 0, 1) := by decide +kernel
theorem d_T_append_8 : decode c_T_append 8 = .ok (.getfield 15, 3) := by decide +kernel
theorem d_T_append_11 : decode c_T_append 11 = .ok (.ifCond .lt 38, 3) := by decide +kernel
theorem d_T_append_14 : decode c_T_append 14 = .ok (.aload_n 0, 1) := by decide +kernel
theorem d_T_append_15 : decode c_T_append 15 = .ok (.getfield 15, 3) := by decide +kernel
theorem d_T_append_18 : decode c_T_append 18 = .ok (.aload_n 0, 1) := by decide +kernel
theorem d_T_append_19 : decode c_T_append 19 = .ok (.getfield 9, 3) := by decide +kernel
theorem d_T_append_22 : decode c_T_append 22 = .ok (.arraylength, 1) := by decide +kernel
theorem d_T_append_23 : decode c_T_append 23 = .ok (.if_icmp .ge 26, 3) := by decide +kernel
theorem d_T_append_26 : decode c_T_append 26 = .ok (.aload_n 0, 1) := by decide +kernel
theorem d_T_append_27 : decode c_T_append 27 = .ok (.getfield 9, 3) := by decide +kernel
theorem d_T_append_30 : decode c_T_append 30 = .ok (.aload_n 0, 1) := by decide +kernel
theorem d_T_append_31 : decode c_T_append 31 = .ok (.getfield 15, 3) := by decide +kernel
theorem d_T_append_34 : decode c_T_append 34 = .ok (.iload_n 1, 1) := by decide +kernel
theorem d_T_append_35 : decode c_T_append 35 = .ok (.iload_n 2, 1) := by decide +kernel
theorem d_T_append_36 : decode c_T_append 36 = .ok (.iushr, 1) := by decide +kernel
theorem d_T_append_37 : decode c_T_append 37 = .ok (.i2b, 1) := by decide +kernel
theorem d_T_append_38 : decode c_T_append 38 = .ok (.bastore, 1) := by decide +kernel
theorem d_T_append_39 : decode c_T_append 39 = .ok (.aload_n 0, 1) := by decide +kernel
theorem d_T_append_40 : decode c_T_append 40 = .ok (.dup, 1) := by decide +kernel
theorem d_T_append_41 : decode c_T_append 41 = .ok (.getfield 15, 3) := by decide +kernel
theorem d_T_append_44 : decode c_T_append 44 = .ok (.iconst 1, 1) := by decide +kernel
theorem d_T_append_45 : decode c_T_append 45 = .ok (.iadd, 1) := by decide +kernel
theorem d_T_append_46 : decode c_T_append 46 = .ok (.putfield 15, 3) := by decide +kernel
theorem d_T_append_49 : decode c_T_append 49 = .ok (.iinc 2 (-8), 3) := by decide +kernel
theorem d_T_append_52 : decode c_T_append 52 = .ok (.goto (-49), 3) := by decide +kernel
theorem d_T_append_55 : decode c_T_append 55 = .ok (.return_, 1) := by decide +kernel
theorem d_T_isDance_0 : decode c_T_isDance 0 = .ok (.aload_n 0, 1) := by decide +kernel
theorem d_T_isDance_1 : decode c_T_isDance 1 = .ok (.getfield 15, 3) := by decide +kernel
theorem d_T_isDance_4 : decode c_T_isDance 4 = .ok (.iconst 1, 1) := by decide +kernel
theorem d_T_isDance_5 : decode c_T_isDance 5 = .ok (.if_icmp .lt 12, 3) := by decide +kernel
theorem d_T_isDance_8 : decode c_T_isDance 8 = .ok (.aload_n 0, 1) := by decide +kernel
theorem d_T_isDance_9 : decode c_T_isDance 9 = .ok (.getfield 15, 3) := by decide +kernel
theorem d_T_isDance_12 : decode c_T_isDance 12 = .ok (.bipush 24, 2) := by decide +kernel
theorem d_T_isDance_14 : decode c_T_isDance 14 = .ok (.if_icmp .le 5, 3) := by decide +kernel
theorem d_T_isDance_17 : decode c_T_isDance 17 = .ok (.iconst 0, 1) := by decide +kernel
theorem d_T_isDance_18 : decode c_T_isDance 18 = .ok (.ireturn, 1) := by decide +kernel
theorem d_T_isDance_19 : decode c_T_isDance 19 = .ok (.iconst 0, 1) := by decide +kernel
theorem d_T_isDance_20 : decode c_T_isDance 20 = .ok (.istore_n 1, 1) := by decide +kernel
theorem d_T_isDance_21 : decode c_T_isDance 21 = .ok (.iload_n 1, 1) := by decide +kernel
theorem d_T_isDance_22 : decode c_T_isDance 22 = .ok (.aload_n 0, 1) := by decide +kernel
theorem d_T_isDance_23 : decode c_T_isDance 23 = .ok (.getfield 15, 3) := by decide +kernel
theorem d_T_isDance_26 : decode c_T_isDance 26 = .ok (.if_icmp .ge 32, 3) := by decide +kernel
theorem d_T_isDance_29 : decode c_T_isDance 29 = .ok (.iload_n 1, 1) := by decide +kernel
theorem d_T_isDance_30 : decode c_T_isDance 30 = .ok (.aload_n 0, 1) := by decide +kernel
theorem d_T_isDance_31 : decode c_T_isDance 31 = .ok (.getfield 9, 3) := by decide +kernel
theorem d_T_isDance_34 : decode c_T_isDance 34 = .ok (.arraylength, 1) := by decide +kernel
theorem d_T_isDance_35 : decode c_T_isDance 35 = .ok (.if_icmp .ge 23, 3) := by decide +kernel
theorem d_T_isDance_38 : decode c_T_isDance 38 = .ok (.aload_n 0, 1) := by decide +kernel
theorem d_T_isDance_39 : decode c_T_isDance 39 = .ok (.getfield 9, 3) := by decide +kernel
theorem d_T_isDance_42 : decode c_T_isDance 42 = .ok (.iload_n 1, 1) := by decide +kernel
theorem d_T_isDance_43 : decode c_T_isDance 43 = .ok (.baload, 1) := by decide +kernel
theorem d_T_isDance_44 : decode c_T_isDance 44 = .ok (.invokestatic 19, 3) := by decide +kernel
theorem d_T_isDance_47 : decode c_T_isDance 47 = .ok (.ifCond .ne 5, 3) := by decide +kernel
theorem d_T_isDance_50 : decode c_T_isDance 50 = .ok (.iconst 0, 1) := by decide +kernel
theorem d_T_isDance_51 : decode c_T_isDance 51 = .ok (.ireturn, 1) := by decide +kernel
theorem d_T_isDance_52 : decode c_T_isDance 52 = .ok (.iinc 1 1, 3) := by decide +kernel
theorem d_T_isDance_55 : decode c_T_isDance 55 = .ok (.goto (-34), 3) := by decide +kernel
theorem d_T_isDance_58 : decode c_T_isDance 58 = .ok (.iconst 1, 1) := by decide +kernel
theorem d_T_isDance_59 : decode c_T_isDance 59 = .ok (.ireturn, 1) := by decide +kernel
theorem d_R_init_0 : decode c_R_init 0 = .ok (.aload_n 0, 1) := by decide +kernel
theorem d_R_init_1 : decode c_R_init 1 = .ok (.invokespecial 3, 3) := by decide +kernel
theorem d_R_init_4 : decode c_R_init 4 = .ok (.aload_n 0, 1) := by decide +kernel
theorem d_R_init_5 : decode c_R_init 5 = .ok (.bipush 100, 2) := by decide +kernel
theorem d_R_init_7 : decode c_R_init 7 = .ok (.putfield 9, 3) := by decide +kernel
theorem d_R_init_10 : decode c_R_init 10 = .ok (.aload_n 0, 1) := by decide +kernel
theorem d_R_init_11 : decode c_R_init 11 = .ok (.iconst 1, 1) := by decide +kernel
theorem d_R_init_12 : decode c_R_init 12 = .ok (.putfield 15, 3) := by decide +kernel
theorem d_R_init_15 : decode c_R_init 15 = .ok (.aload_n 0, 1) := by decide +kernel
theorem d_R_init_16 : decode c_R_init 16 = .ok (.iload_n 1, 1) := by decide +kernel
theorem d_R_init_17 : decode c_R_init 17 = .ok (.putfield 18, 3) := by decide +kernel
theorem d_R_init_20 : decode c_R_init 20 = .ok (.aload_n 0, 1) := by decide +kernel
theorem d_R_init_21 : decode c_R_init 21 = .ok (.aload_n 2, 1) := by decide +kernel
theorem d_R_init_22 : decode c_R_init 22 = .ok (.putfield 21, 3) := by decide +kernel
theorem d_R_init_25 : decode c_R_init 25 = .ok (.return_, 1) := by decide +kernel
theorem d_R_becomeLike_0 : decode c_R_becomeLike 0 = .ok (.aload_n 0, 1) := by decide +kernel
theorem d_R_becomeLike_1 : decode c_R_becomeLike 1 = .ok (.aload_n 1, 1) := by decide +kernel
theorem d_R_becomeLike_2 : decode c_R_becomeLike 2 = .ok (.getfield 25, 3) := by decide +kernel
theorem d_R_becomeLike_5 : decode c_R_becomeLike 5 = .ok (.putfield 25, 3) := by decide +kernel
theorem d_R_becomeLike_8 : decode c_R_becomeLike 8 = .ok (.aload_n 0, 1) := by decide +kernel
theorem d_R_becomeLike_9 : decode c_R_becomeLike 9 = .ok (.aload_n 1, 1) := by decide +kernel
theorem d_R_becomeLike_10 : decode c_R_becomeLike 10 = .ok (.getfield 28, 3) := by decide +kernel
theorem d_R_becomeLike_13 : decode c_R_becomeLike 13 = .ok (.putfield 28, 3) := by decide +kernel
theorem d_R_becomeLike_16 : decode c_R_becomeLike 16 = .ok (.aload_n 0, 1) := by decide +kernel
theorem d_R_becomeLike_17 : decode c_R_becomeLike 17 = .ok (.aload_n 1, 1) := by decide +kernel
theorem d_R_becomeLike_18 : decode c_R_becomeLike 18 = .ok (.getfield 31, 3) := by decide +kernel
theorem d_R_becomeLike_21 : decode c_R_becomeLike 21 = .ok (.putfield 31, 3) := by decide +kernel
theorem d_R_becomeLike_24 : decode c_R_becomeLike 24 = .ok (.aload_n 0, 1) := by decide +kernel
theorem d_R_becomeLike_25 : decode c_R_becomeLike 25 = .ok (.aload_n 1, 1) := by decide +kernel
theorem d_R_becomeLike_26 : decode c_R_becomeLike 26 = .ok (.getfield 9, 3) := by decide +kernel
theorem d_R_becomeLike_29 : decode c_R_becomeLike 29 = .ok (.putfield 9, 3) := by decide +kernel
theorem d_R_becomeLike_32 : decode c_R_becomeLike 32 = .ok (.aload_n 0, 1) := by decide +kernel
theorem d_R_becomeLike_33 : decode c_R_becomeLike 33 = .ok (.aload_n 1, 1) := by decide +kernel
theorem d_R_becomeLike_34 : decode c_R_becomeLike 34 = .ok (.getfield 15, 3) := by decide +kernel
theorem d_R_becomeLike_37 : decode c_R_becomeLike 37 = .ok (.putfield 15, 3) := by decide +kernel
theorem d_R_becomeLike_40 : decode c_R_becomeLike 40 = .ok (.aload_n 0, 1) := by decide +kernel
theorem d_R_becomeLike_41 : decode c_R_becomeLike 41 = .ok (.aload_n 1, 1) := by decide +kernel
theorem d_R_becomeLike_42 : decode c_R_becomeLike 42 = .ok (.getfield 21, 3) := by decide +kernel
theorem d_R_becomeLike_45 : decode c_R_becomeLike 45 = .ok (.putfield 21, 3) := by decide +kernel
theorem d_R_becomeLike_48 : decode c_R_becomeLike 48 = .ok (.aload_n 0, 1) := by decide +kernel
theorem d_R_becomeLike_49 : decode c_R_becomeLike 49 = .ok (.aload_n 1, 1) := by decide +kernel
theorem d_R_becomeLike_50 : decode c_R_becomeLike 50 = .ok (.getfield 34, 3) := by decide +kernel
theorem d_R_becomeLike_53 : decode c_R_becomeLike 53 = .ok (.putfield 34, 3) := by decide +kernel
theorem d_R_becomeLike_56 : decode c_R_becomeLike 56 = .ok (.aload_n 0, 1) := by decide +kernel
theorem d_R_becomeLike_57 : decode c_R_becomeLike 57 = .ok (.aload_n 1, 1) := by decide +kernel
theorem d_R_becomeLike_58 : decode c_R_becomeLike 58 = .ok (.getfield 37, 3) := by decide +kernel
theorem d_R_becomeLike_61 : decode c_R_becomeLike 61 = .ok (.putfield 37, 3) := by decide +kernel
theorem d_R_becomeLike_64 : decode c_R_becomeLike 64 = .ok (.aload_n 0, 1) := by decide +kernel
theorem d_R_becomeLike_65 : decode c_R_becomeLike 65 = .ok (.aload_n 1, 1) := by decide +kernel
theorem d_R_becomeLike_66 : decode c_R_becomeLike 66 = .ok (.getfield 41, 3) := by decide +kernel
theorem d_R_becomeLike_69 : decode c_R_becomeLike 69 = .ok (.putfield 41, 3) := by decide +kernel
theorem d_R_becomeLike_72 : decode c_R_becomeLike 72 = .ok (.aload_n 0, 1) := by decide +kernel
theorem d_R_becomeLike_73 : decode c_R_becomeLike 73 = .ok (.aload_n 1, 1) := by decide +kernel
theorem d_R_becomeLike_74 : decode c_R_becomeLike 74 = .ok (.getfield 44, 3) := by decide +kernel
theorem d_R_becomeLike_77 : decode c_R_becomeLike 77 = .ok (.putfield 44, 3) := by decide +kernel
theorem d_R_becomeLike_80 : decode c_R_becomeLike 80 = .ok (.aload_n 0, 1) := by decide +kernel
theorem d_R_becomeLike_81 : decode c_R_becomeLike 81 = .ok (.aload_n 1, 1) := by decide +kernel
theorem d_R_becomeLike_82 : decode c_R_becomeLike 82 = .ok (.getfield 47, 3) := by decide +kernel
theorem d_R_becomeLike_85 : decode c_R_becomeLike 85 = .ok (.putfield 47, 3) := by decide +kernel
theorem d_R_becomeLike_88 : decode c_R_becomeLike 88 = .ok (.return_, 1) := by decide +kernel
theorem d_R_standAlone_0 : decode c_R_standAlone 0 = .ok (.aload_n 0, 1) := by decide +kernel
theorem d_R_standAlone_1 : decode c_R_standAlone 1 = .ok (.aconst_null, 1) := by decide +kernel
theorem d_R_standAlone_2 : decode c_R_standAlone 2 = .ok (.putfield 50, 3) := by decide +kernel
theorem d_R_standAlone_5 : decode c_R_standAlone 5 = .ok (.aload_n 0, 1) := by decide +kernel
theorem d_R_standAlone_6 : decode c_R_standAlone 6 = .ok (.iconst 0, 1) := by decide +kernel
theorem d_R_standAlone_7 : decode c_R_standAlone 7 = .ok (.putfield 37, 3) := by decide +kernel
theorem d_R_standAlone_10 : decode c_R_standAlone 10 = .ok (.return_, 1) := by decide +kernel
theorem d_R_isBeside_0 : decode c_R_isBeside 0 = .ok (.aload_n 0, 1) := by decide +kernel
theorem d_R_isBeside_1 : decode c_R_isBeside 1 = .ok (.getfield 25, 3) := by decide +kernel
theorem d_R_isBeside_4 : decode c_R_isBeside 4 = .ok (.aload_n 0, 1) := by decide +kernel
theorem d_R_isBeside_5 : decode c_R_isBeside 5 = .ok (.getfield 28, 3) := by decide +kernel
theorem d_R_isBeside_8 : decode c_R_isBeside 8 = .ok (.aload_n 1, 1) := by decide +kernel
theorem d_R_isBeside_9 : decode c_R_isBeside 9 = .ok (.getfield 25, 3) := by decide +kernel
theorem d_R_isBeside_12 : decode c_R_isBeside 12 = .ok (.aload_n 1, 1) := by decide +kernel
theorem d_R_isBeside_13 : decode c_R_isBeside 13 = .ok (.getfield 28, 3) := by decide +kernel
theorem d_R_isBeside_16 : decode c_R_isBeside 16 = .ok (.invokestatic 54, 3) := by decide +kernel
theorem d_R_isBeside_19 : decode c_R_isBeside 19 = .ok (.iconst 1, 1) := by decide +kernel
theorem d_R_isBeside_20 : decode c_R_isBeside 20 = .ok (.if_icmp .ne 7, 3) := by decide +kernel
theorem d_R_isBeside_23 : decode c_R_isBeside 23 = .ok (.iconst 1, 1) := by decide +kernel
theorem d_R_isBeside_24 : decode c_R_isBeside 24 = .ok (.goto 4, 3) := by decide +kernel
theorem d_R_isBeside_27 : decode c_R_isBeside 27 = .ok (.iconst 0, 1) := by decide +kernel
theorem d_R_isBeside_28 : decode c_R_isBeside 28 = .ok (.ireturn, 1) := by decide +kernel
theorem d_R_isSpent_0 : decode c_R_isSpent 0 = .ok (.aload_n 0, 1) := by decide +kernel
theorem d_R_isSpent_1 : decode c_R_isSpent 1 = .ok (.getfield 9, 3) := by decide +kernel
theorem d_R_isSpent_4 : decode c_R_isSpent 4 = .ok (.aload_n 0, 1) := by decide +kernel
theorem d_R_isSpent_5 : decode c_R_isSpent 5 = .ok (.getfield 15, 3) := by decide +kernel
theorem d_R_isSpent_8 : decode c_R_isSpent 8 = .ok (.if_icmp .ge 7, 3) := by decide +kernel
theorem d_R_isSpent_11 : decode c_R_isSpent 11 = .ok (.iconst 1, 1) := by decide +kernel
theorem d_R_isSpent_12 : decode c_R_isSpent 12 = .ok (.goto 4, 3) := by decide +kernel
theorem d_R_isSpent_15 : decode c_R_isSpent 15 = .ok (.iconst 0, 1) := by decide +kernel
theorem d_R_isSpent_16 : decode c_R_isSpent 16 = .ok (.ireturn, 1) := by decide +kernel
theorem d_R_canDance_0 : decode c_R_canDance 0 = .ok (.aload_n 0, 1) := by decide +kernel
theorem d_R_canDance_1 : decode c_R_canDance 1 = .ok (.getfield 41, 3) := by decide +kernel
theorem d_R_canDance_4 : decode c_R_canDance 4 = .ok (.ifCond .ne 14, 3) := by decide +kernel
theorem d_R_canDance_7 : decode c_R_canDance 7 = .ok (.aload_n 0, 1) := by decide +kernel
theorem d_R_canDance_8 : decode c_R_canDance 8 = .ok (.invokevirtual 58, 3) := by decide +kernel
theorem d_R_canDance_11 : decode c_R_canDance 11 = .ok (.ifCond .ne 7, 3) := by decide +kernel
theorem d_R_canDance_14 : decode c_R_canDance 14 = .ok (.iconst 1, 1) := by decide +kernel
theorem d_R_canDance_15 : decode c_R_canDance 15 = .ok (.goto 4, 3) := by decide +kernel
theorem d_R_canDance_18 : decode c_R_canDance 18 = .ok (.iconst 0, 1) := by decide +kernel
theorem d_R_canDance_19 : decode c_R_canDance 19 = .ok (.ireturn, 1) := by decide +kernel
theorem d_R_windBy_0 : decode c_R_windBy 0 = .ok (.aload_n 0, 1) := by decide +kernel
theorem d_R_windBy_1 : decode c_R_windBy 1 = .ok (.iconst 0, 1) := by decide +kernel
theorem d_R_windBy_2 : decode c_R_windBy 2 = .ok (.sipush 200, 3) := by decide +kernel
theorem d_R_windBy_5 : decode c_R_windBy 5 = .ok (.aload_n 0, 1) := by decide +kernel
theorem d_R_windBy_6 : decode c_R_windBy 6 = .ok (.getfield 9, 3) := by decide +kernel
theorem d_R_windBy_9 : decode c_R_windBy 9 = .ok (.iload_n 1, 1) := by decide +kernel
theorem d_R_windBy_10 : decode c_R_windBy 10 = .ok (.iadd, 1) := by decide +kernel
theorem d_R_windBy_11 : decode c_R_windBy 11 = .ok (.invokestatic 62, 3) := by decide +kernel
theorem d_R_windBy_14 : decode c_R_windBy 14 = .ok (.invokestatic 68, 3) := by decide +kernel
theorem d_R_windBy_17 : decode c_R_windBy 17 = .ok (.putfield 9, 3) := by decide +kernel
theorem d_R_windBy_20 : decode c_R_windBy 20 = .ok (.return_, 1) := by decide +kernel
theorem d_R_aimAt_0 : decode c_R_aimAt 0 = .ok (.aload_n 0, 1) := by decide +kernel
theorem d_R_aimAt_1 : decode c_R_aimAt 1 = .ok (.iload_n 1, 1) := by decide +kernel
theorem d_R_aimAt_2 : decode c_R_aimAt 2 = .ok (.putfield 71, 3) := by decide +kernel
theorem d_R_aimAt_5 : decode c_R_aimAt 5 = .ok (.aload_n 0, 1) := by decide +kernel
theorem d_R_aimAt_6 : decode c_R_aimAt 6 = .ok (.iload_n 2, 1) := by decide +kernel
theorem d_R_aimAt_7 : decode c_R_aimAt 7 = .ok (.putfield 74, 3) := by decide +kernel
theorem d_R_aimAt_10 : decode c_R_aimAt 10 = .ok (.return_, 1) := by decide +kernel
theorem d_R_aimFrom_0 : decode c_R_aimFrom 0 = .ok (.aload_n 0, 1) := by decide +kernel
theorem d_R_aimFrom_1 : decode c_R_aimFrom 1 = .ok (.iload_n 1, 1) := by decide +kernel
theorem d_R_aimFrom_2 : decode c_R_aimFrom 2 = .ok (.iload_n 3, 1) := by decide +kernel
theorem d_R_aimFrom_3 : decode c_R_aimFrom 3 = .ok (.invokestatic 77, 3) := by decide +kernel
theorem d_R_aimFrom_6 : decode c_R_aimFrom 6 = .ok (.iadd, 1) := by decide +kernel
theorem d_R_aimFrom_7 : decode c_R_aimFrom 7 = .ok (.iload_n 2, 1) := by decide +kernel
theorem d_R_aimFrom_8 : decode c_R_aimFrom 8 = .ok (.iload_n 3, 1) := by decide +kernel
theorem d_R_aimFrom_9 : decode c_R_aimFrom 9 = .ok (.invokestatic 81, 3) := by decide +kernel
theorem d_R_aimFrom_12 : decode c_R_aimFrom 12 = .ok (.iadd, 1) := by decide +kernel
theorem d_R_aimFrom_13 : decode c_R_aimFrom 13 = .ok (.invokevirtual 84, 3) := by decide +kernel
theorem d_R_aimFrom_16 : decode c_R_aimFrom 16 = .ok (.return_, 1) := by decide +kernel
theorem d_R_aimsOffFloor_0 : decode c_R_aimsOffFloor 0 = .ok (.aload_n 0, 1) := by decide +kernel
theorem d_R_aimsOffFloor_1 : decode c_R_aimsOffFloor 1 = .ok (.getfield 71, 3) := by decide +kernel
theorem d_R_aimsOffFloor_4 : decode c_R_aimsOffFloor 4 = .ok (.aload_n 0, 1) := by decide +kernel
theorem d_R_aimsOffFloor_5 : decode c_R_aimsOffFloor 5 = .ok (.getfield 74, 3) := by decide +kernel
theorem d_R_aimsOffFloor_8 : decode c_R_aimsOffFloor 8 = .ok (.invokestatic 88, 3) := by decide +kernel
theorem d_R_aimsOffFloor_11 : decode c_R_aimsOffFloor 11 = .ok (.ifCond .ne 7, 3) := by decide +kernel
theorem d_R_aimsOffFloor_14 : decode c_R_aimsOffFloor 14 = .ok (.iconst 1, 1) := by decide +kernel
theorem d_R_aimsOffFloor_15 : decode c_R_aimsOffFloor 15 = .ok (.goto 4, 3) := by decide +kernel
theorem d_R_aimsOffFloor_18 : decode c_R_aimsOffFloor 18 = .ok (.iconst 0, 1) := by decide +kernel
theorem d_R_aimsOffFloor_19 : decode c_R_aimsOffFloor 19 = .ok (.ireturn, 1) := by decide +kernel
theorem d_R_goAndTurn_0 : decode c_R_goAndTurn 0 = .ok (.aload_n 0, 1) := by decide +kernel
theorem d_R_goAndTurn_1 : decode c_R_goAndTurn 1 = .ok (.aload_n 0, 1) := by decide +kernel
theorem d_R_goAndTurn_2 : decode c_R_goAndTurn 2 = .ok (.getfield 71, 3) := by decide +kernel
theorem d_R_goAndTurn_5 : decode c_R_goAndTurn 5 = .ok (.putfield 25, 3) := by decide +kernel
theorem d_R_goAndTurn_8 : decode c_R_goAndTurn 8 = .ok (.aload_n 0, 1) := by decide +kernel
theorem d_R_goAndTurn_9 : decode c_R_goAndTurn 9 = .ok (.aload_n 0, 1) := by decide +kernel
theorem d_R_goAndTurn_10 : decode c_R_goAndTurn 10 = .ok (.getfield 74, 3) := by decide +kernel
theorem d_R_goAndTurn_13 : decode c_R_goAndTurn 13 = .ok (.putfield 28, 3) := by decide +kernel
theorem d_R_goAndTurn_16 : decode c_R_goAndTurn 16 = .ok (.aload_n 0, 1) := by decide +kernel
theorem d_R_goAndTurn_17 : decode c_R_goAndTurn 17 = .ok (.aload_n 0, 1) := by decide +kernel
theorem d_R_goAndTurn_18 : decode c_R_goAndTurn 18 = .ok (.getfield 31, 3) := by decide +kernel
theorem d_R_goAndTurn_21 : decode c_R_goAndTurn 21 = .ok (.iload_n 1, 1) := by decide +kernel
theorem d_R_goAndTurn_22 : decode c_R_goAndTurn 22 = .ok (.invokestatic 92, 3) := by decide +kernel
theorem d_R_goAndTurn_25 : decode c_R_goAndTurn 25 = .ok (.putfield 31, 3) := by decide +kernel
theorem d_R_goAndTurn_28 : decode c_R_goAndTurn 28 = .ok (.aload_n 0, 1) := by decide +kernel
theorem d_R_goAndTurn_29 : decode c_R_goAndTurn 29 = .ok (.dup, 1) := by decide +kernel
theorem d_R_goAndTurn_30 : decode c_R_goAndTurn 30 = .ok (.getfield 9, 3) := by decide +kernel
theorem d_R_goAndTurn_33 : decode c_R_goAndTurn 33 = .ok (.aload_n 0, 1) := by decide +kernel
theorem d_R_goAndTurn_34 : decode c_R_goAndTurn 34 = .ok (.getfield 15, 3) := by decide +kernel
theorem d_R_goAndTurn_37 : decode c_R_goAndTurn 37 = .ok (.isub, 1) := by decide +kernel
theorem d_R_goAndTurn_38 : decode c_R_goAndTurn 38 = .ok (.putfield 9, 3) := by decide +kernel
theorem d_R_goAndTurn_41 : decode c_R_goAndTurn 41 = .ok (.aload_n 0, 1) := by decide +kernel
theorem d_R_goAndTurn_42 : decode c_R_goAndTurn 42 = .ok (.dup, 1) := by decide +kernel
theorem d_R_goAndTurn_43 : decode c_R_goAndTurn 43 = .ok (.getfield 44, 3) := by decide +kernel
theorem d_R_goAndTurn_46 : decode c_R_goAndTurn 46 = .ok (.iconst 1, 1) := by decide +kernel
theorem d_R_goAndTurn_47 : decode c_R_goAndTurn 47 = .ok (.iadd, 1) := by decide +kernel
theorem d_R_goAndTurn_48 : decode c_R_goAndTurn 48 = .ok (.putfield 44, 3) := by decide +kernel
theorem d_R_goAndTurn_51 : decode c_R_goAndTurn 51 = .ok (.return_, 1) := by decide +kernel
theorem d_R_stagger_0 : decode c_R_stagger 0 = .ok (.aload_n 0, 1) := by decide +kernel
theorem d_R_stagger_1 : decode c_R_stagger 1 = .ok (.iconst 3, 1) := by decide +kernel
theorem d_R_stagger_2 : decode c_R_stagger 2 = .ok (.putfield 41, 3) := by decide +kernel
theorem d_R_stagger_5 : decode c_R_stagger 5 = .ok (.aload_n 0, 1) := by decide +kernel
theorem d_R_stagger_6 : decode c_R_stagger 6 = .ok (.dup, 1) := by decide +kernel
theorem d_R_stagger_7 : decode c_R_stagger 7 = .ok (.getfield 47, 3) := by decide +kernel
theorem d_R_stagger_10 : decode c_R_stagger 10 = .ok (.iconst 1, 1) := by decide +kernel
theorem d_R_stagger_11 : decode c_R_stagger 11 = .ok (.iadd, 1) := by decide +kernel
theorem d_R_stagger_12 : decode c_R_stagger 12 = .ok (.putfield 47, 3) := by decide +kernel
theorem d_R_stagger_15 : decode c_R_stagger 15 = .ok (.return_, 1) := by decide +kernel
theorem d_R_directionTo_0 : decode c_R_directionTo 0 = .ok (.aload_n 1, 1) := by decide +kernel
theorem d_R_directionTo_1 : decode c_R_directionTo 1 = .ok (.getfield 25, 3) := by decide +kernel
theorem d_R_directionTo_4 : decode c_R_directionTo 4 = .ok (.aload_n 0, 1) := by decide +kernel
theorem d_R_directionTo_5 : decode c_R_directionTo 5 = .ok (.getfield 25, 3) := by decide +kernel
theorem d_R_directionTo_8 : decode c_R_directionTo 8 = .ok (.if_icmp .eq 20, 3) := by decide +kernel
theorem d_R_directionTo_11 : decode c_R_directionTo 11 = .ok (.aload_n 1, 1) := by decide +kernel
theorem d_R_directionTo_12 : decode c_R_directionTo 12 = .ok (.getfield 25, 3) := by decide +kernel
theorem d_R_directionTo_15 : decode c_R_directionTo 15 = .ok (.aload_n 0, 1) := by decide +kernel
theorem d_R_directionTo_16 : decode c_R_directionTo 16 = .ok (.getfield 25, 3) := by decide +kernel
theorem d_R_directionTo_19 : decode c_R_directionTo 19 = .ok (.if_icmp .le 7, 3) := by decide +kernel
theorem d_R_directionTo_22 : decode c_R_directionTo 22 = .ok (.iconst 1, 1) := by decide +kernel
theorem d_R_directionTo_23 : decode c_R_directionTo 23 = .ok (.goto 4, 3) := by decide +kernel
theorem d_R_directionTo_26 : decode c_R_directionTo 26 = .ok (.iconst 3, 1) := by decide +kernel
theorem d_R_directionTo_27 : decode c_R_directionTo 27 = .ok (.ireturn, 1) := by decide +kernel
theorem d_R_directionTo_28 : decode c_R_directionTo 28 = .ok (.aload_n 1, 1) := by decide +kernel
theorem d_R_directionTo_29 : decode c_R_directionTo 29 = .ok (.getfield 28, 3) := by decide +kernel
theorem d_R_directionTo_32 : decode c_R_directionTo 32 = .ok (.aload_n 0, 1) := by decide +kernel
theorem d_R_directionTo_33 : decode c_R_directionTo 33 = .ok (.getfield 28, 3) := by decide +kernel
theorem d_R_directionTo_36 : decode c_R_directionTo 36 = .ok (.if_icmp .le 7, 3) := by decide +kernel
theorem d_R_directionTo_39 : decode c_R_directionTo 39 = .ok (.iconst 2, 1) := by decide +kernel
theorem d_R_directionTo_40 : decode c_R_directionTo 40 = .ok (.goto 4, 3) := by decide +kernel
theorem d_R_directionTo_43 : decode c_R_directionTo 43 = .ok (.iconst 0, 1) := by decide +kernel
theorem d_R_directionTo_44 : decode c_R_directionTo 44 = .ok (.ireturn, 1) := by decide +kernel
theorem d_R_tell_0 : decode c_R_tell 0 = .ok (.iload_n 1, 1) := by decide +kernel
theorem d_R_tell_1 : decode c_R_tell 1 = .ok (.tableswitch 139 0 10 #[59, 64, 69, 74, 79, 84, 92, 97, 116, 129, 134], 59) := by decide +kernel
theorem d_R_tell_60 : decode c_R_tell 60 = .ok (.aload_n 0, 1) := by decide +kernel
theorem d_R_tell_61 : decode c_R_tell 61 = .ok (.getfield 25, 3) := by decide +kernel
theorem d_R_tell_64 : decode c_R_tell 64 = .ok (.ireturn, 1) := by decide +kernel
theorem d_R_tell_65 : decode c_R_tell 65 = .ok (.aload_n 0, 1) := by decide +kernel
theorem d_R_tell_66 : decode c_R_tell 66 = .ok (.getfield 28, 3) := by decide +kernel
theorem d_R_tell_69 : decode c_R_tell 69 = .ok (.ireturn, 1) := by decide +kernel
theorem d_R_tell_70 : decode c_R_tell 70 = .ok (.aload_n 0, 1) := by decide +kernel
theorem d_R_tell_71 : decode c_R_tell 71 = .ok (.getfield 31, 3) := by decide +kernel
theorem d_R_tell_74 : decode c_R_tell 74 = .ok (.ireturn, 1) := by decide +kernel
theorem d_R_tell_75 : decode c_R_tell 75 = .ok (.aload_n 0, 1) := by decide +kernel
theorem d_R_tell_76 : decode c_R_tell 76 = .ok (.getfield 9, 3) := by decide +kernel
theorem d_R_tell_79 : decode c_R_tell 79 = .ok (.ireturn, 1) := by decide +kernel
theorem d_R_tell_80 : decode c_R_tell 80 = .ok (.aload_n 0, 1) := by decide +kernel
theorem d_R_tell_81 : decode c_R_tell 81 = .ok (.getfield 15, 3) := by decide +kernel
theorem d_R_tell_84 : decode c_R_tell 84 = .ok (.ireturn, 1) := by decide +kernel
theorem d_R_tell_85 : decode c_R_tell 85 = .ok (.aload_n 0, 1) := by decide +kernel
theorem d_R_tell_86 : decode c_R_tell 86 = .ok (.getfield 21, 3) := by decide +kernel
theorem d_R_tell_89 : decode c_R_tell 89 = .ok (.getfield 95, 3) := by decide +kernel
theorem d_R_tell_92 : decode c_R_tell 92 = .ok (.ireturn, 1) := by decide +kernel
theorem d_R_tell_93 : decode c_R_tell 93 = .ok (.aload_n 0, 1) := by decide +kernel
theorem d_R_tell_94 : decode c_R_tell 94 = .ok (.getfield 34, 3) := by decide +kernel
theorem d_R_tell_97 : decode c_R_tell 97 = .ok (.ireturn, 1) := by decide +kernel
theorem d_R_tell_98 : decode c_R_tell 98 = .ok (.aload_n 0, 1) := by decide +kernel
theorem d_R_tell_99 : decode c_R_tell 99 = .ok (.getfield 50, 3) := by decide +kernel
theorem d_R_tell_102 : decode c_R_tell 102 = .ok (.ifnonnull 7, 3) := by decide +kernel
theorem d_R_tell_105 : decode c_R_tell 105 = .ok (.iconst (-1), 1) := by decide +kernel
theorem d_R_tell_106 : decode c_R_tell 106 = .ok (.goto 10, 3) := by decide +kernel
theorem d_R_tell_109 : decode c_R_tell 109 = .ok (.aload_n 0, 1) := by decide +kernel
theorem d_R_tell_110 : decode c_R_tell 110 = .ok (.getfield 50, 3) := by decide +kernel
theorem d_R_tell_113 : decode c_R_tell 113 = .ok (.getfield 18, 3) := by decide +kernel
theorem d_R_tell_116 : decode c_R_tell 116 = .ok (.ireturn, 1) := by decide +kernel
theorem d_R_tell_117 : decode c_R_tell 117 = .ok (.aload_n 0, 1) := by decide +kernel
theorem d_R_tell_118 : decode c_R_tell 118 = .ok (.getfield 37, 3) := by decide +kernel
theorem d_R_tell_121 : decode c_R_tell 121 = .ok (.ifCond .eq 7, 3) := by decide +kernel
theorem d_R_tell_124 : decode c_R_tell 124 = .ok (.iconst 1, 1) := by decide +kernel
theorem d_R_tell_125 : decode c_R_tell 125 = .ok (.goto 4, 3) := by decide +kernel
theorem d_R_tell_128 : decode c_R_tell 128 = .ok (.iconst 0, 1) := by decide +kernel
theorem d_R_tell_129 : decode c_R_tell 129 = .ok (.ireturn, 1) := by decide +kernel
theorem d_R_tell_130 : decode c_R_tell 130 = .ok (.aload_n 0, 1) := by decide +kernel
theorem d_R_tell_131 : decode c_R_tell 131 = .ok (.getfield 41, 3) := by decide +kernel
theorem d_R_tell_134 : decode c_R_tell 134 = .ok (.ireturn, 1) := by decide +kernel
theorem d_R_tell_135 : decode c_R_tell 135 = .ok (.aload_n 0, 1) := by decide +kernel
theorem d_R_tell_136 : decode c_R_tell 136 = .ok (.getfield 44, 3) := by decide +kernel
theorem d_R_tell_139 : decode c_R_tell 139 = .ok (.ireturn, 1) := by decide +kernel
theorem d_R_tell_140 : decode c_R_tell 140 = .ok (.aload_n 0, 1) := by decide +kernel
theorem d_R_tell_141 : decode c_R_tell 141 = .ok (.getfield 47, 3) := by decide +kernel
theorem d_R_tell_144 : decode c_R_tell 144 = .ok (.ireturn, 1) := by decide +kernel
theorem d_N_init_0 : decode c_N_init 0 = .ok (.aload_n 0, 1) := by decide +kernel
theorem d_N_init_1 : decode c_N_init 1 = .ok (.invokespecial 3, 3) := by decide +kernel
theorem d_N_init_4 : decode c_N_init 4 = .ok (.aload_n 0, 1) := by decide +kernel
theorem d_N_init_5 : decode c_N_init 5 = .ok (.bipush 8, 2) := by decide +kernel
theorem d_N_init_7 : decode c_N_init 7 = .ok (.newarray .int, 2) := by decide +kernel
theorem d_N_init_9 : decode c_N_init 9 = .ok (.putfield 9, 3) := by decide +kernel
theorem d_N_init_12 : decode c_N_init 12 = .ok (.return_, 1) := by decide +kernel
theorem d_N_becomeLike_0 : decode c_N_becomeLike 0 = .ok (.aload_n 0, 1) := by decide +kernel
theorem d_N_becomeLike_1 : decode c_N_becomeLike 1 = .ok (.aload_n 1, 1) := by decide +kernel
theorem d_N_becomeLike_2 : decode c_N_becomeLike 2 = .ok (.getfield 15, 3) := by decide +kernel
theorem d_N_becomeLike_5 : decode c_N_becomeLike 5 = .ok (.putfield 15, 3) := by decide +kernel
theorem d_N_becomeLike_8 : decode c_N_becomeLike 8 = .ok (.aload_n 0, 1) := by decide +kernel
theorem d_N_becomeLike_9 : decode c_N_becomeLike 9 = .ok (.aload_n 1, 1) := by decide +kernel
theorem d_N_becomeLike_10 : decode c_N_becomeLike 10 = .ok (.getfield 19, 3) := by decide +kernel
theorem d_N_becomeLike_13 : decode c_N_becomeLike 13 = .ok (.putfield 19, 3) := by decide +kernel
theorem d_N_becomeLike_16 : decode c_N_becomeLike 16 = .ok (.aload_n 0, 1) := by decide +kernel
theorem d_N_becomeLike_17 : decode c_N_becomeLike 17 = .ok (.aload_n 1, 1) := by decide +kernel
theorem d_N_becomeLike_18 : decode c_N_becomeLike 18 = .ok (.getfield 22, 3) := by decide +kernel
theorem d_N_becomeLike_21 : decode c_N_becomeLike 21 = .ok (.putfield 22, 3) := by decide +kernel
theorem d_N_becomeLike_24 : decode c_N_becomeLike 24 = .ok (.aload_n 0, 1) := by decide +kernel
theorem d_N_becomeLike_25 : decode c_N_becomeLike 25 = .ok (.aload_n 1, 1) := by decide +kernel
theorem d_N_becomeLike_26 : decode c_N_becomeLike 26 = .ok (.getfield 25, 3) := by decide +kernel
theorem d_N_becomeLike_29 : decode c_N_becomeLike 29 = .ok (.putfield 25, 3) := by decide +kernel
theorem d_N_becomeLike_32 : decode c_N_becomeLike 32 = .ok (.iconst 0, 1) := by decide +kernel
theorem d_N_becomeLike_33 : decode c_N_becomeLike 33 = .ok (.istore_n 2, 1) := by decide +kernel
theorem d_N_becomeLike_34 : decode c_N_becomeLike 34 = .ok (.iload_n 2, 1) := by decide +kernel
theorem d_N_becomeLike_35 : decode c_N_becomeLike 35 = .ok (.aload_n 0, 1) := by decide +kernel
theorem d_N_becomeLike_36 : decode c_N_becomeLike 36 = .ok (.getfield 9, 3) := by decide +kernel
theorem d_N_becomeLike_39 : decode c_N_becomeLike 39 = .ok (.arraylength, 1) := by decide +kernel
theorem d_N_becomeLike_40 : decode c_N_becomeLike 40 = .ok (.if_icmp .ge 30, 3) := by decide +kernel
theorem d_N_becomeLike_43 : decode c_N_becomeLike 43 = .ok (.iload_n 2, 1) := by decide +kernel
theorem d_N_becomeLike_44 : decode c_N_becomeLike 44 = .ok (.aload_n 1, 1) := by decide +kernel
theorem d_N_becomeLike_45 : decode c_N_becomeLike 45 = .ok (.getfield 9, 3) := by decide +kernel
theorem d_N_becomeLike_48 : decode c_N_becomeLike 48 = .ok (.arraylength, 1) := by decide +kernel
theorem d_N_becomeLike_49 : decode c_N_becomeLike 49 = .ok (.if_icmp .ge 21, 3) := by decide +kernel
theorem d_N_becomeLike_52 : decode c_N_becomeLike 52 = .ok (.aload_n 0, 1) := by decide +kernel
theorem d_N_becomeLike_53 : decode c_N_becomeLike 53 = .ok (.getfield 9, 3) := by decide +kernel
theorem d_N_becomeLike_56 : decode c_N_becomeLike 56 = .ok (.iload_n 2, 1) := by decide +kernel
theorem d_N_becomeLike_57 : decode c_N_becomeLike 57 = .ok (.aload_n 1, 1) := by decide +kernel
theorem d_N_becomeLike_58 : decode c_N_becomeLike 58 = .ok (.getfield 9, 3) := by decide +kernel
theorem d_N_becomeLike_61 : decode c_N_becomeLike 61 = .ok (.iload_n 2, 1) := by decide +kernel
theorem d_N_becomeLike_62 : decode c_N_becomeLike 62 = .ok (.iaload, 1) := by decide +kernel
theorem d_N_becomeLike_63 : decode c_N_becomeLike 63 = .ok (.iastore, 1) := by decide +kernel
theorem d_N_becomeLike_64 : decode c_N_becomeLike 64 = .ok (.iinc 2 1, 3) := by decide +kernel
theorem d_N_becomeLike_67 : decode c_N_becomeLike 67 = .ok (.goto (-33), 3) := by decide +kernel
theorem d_N_becomeLike_70 : decode c_N_becomeLike 70 = .ok (.aload_n 0, 1) := by decide +kernel
theorem d_N_becomeLike_71 : decode c_N_becomeLike 71 = .ok (.aload_n 1, 1) := by decide +kernel
theorem d_N_becomeLike_72 : decode c_N_becomeLike 72 = .ok (.getfield 28, 3) := by decide +kernel
theorem d_N_becomeLike_75 : decode c_N_becomeLike 75 = .ok (.putfield 28, 3) := by decide +kernel
theorem d_N_becomeLike_78 : decode c_N_becomeLike 78 = .ok (.aload_n 0, 1) := by decide +kernel
theorem d_N_becomeLike_79 : decode c_N_becomeLike 79 = .ok (.aload_n 1, 1) := by decide +kernel
theorem d_N_becomeLike_80 : decode c_N_becomeLike 80 = .ok (.getfield 31, 3) := by decide +kernel
theorem d_N_becomeLike_83 : decode c_N_becomeLike 83 = .ok (.putfield 31, 3) := by decide +kernel
theorem d_N_becomeLike_86 : decode c_N_becomeLike 86 = .ok (.return_, 1) := by decide +kernel
theorem d_N_addToRound_0 : decode c_N_addToRound 0 = .ok (.aload_n 0, 1) := by decide +kernel
theorem d_N_addToRound_1 : decode c_N_addToRound 1 = .ok (.getfield 25, 3) := by decide +kernel
theorem d_N_addToRound_4 : decode c_N_addToRound 4 = .ok (.ifCond .lt 35, 3) := by decide +kernel
theorem d_N_addToRound_7 : decode c_N_addToRound 7 = .ok (.aload_n 0, 1) := by decide +kernel
theorem d_N_addToRound_8 : decode c_N_addToRound 8 = .ok (.getfield 25, 3) := by decide +kernel
theorem d_N_addToRound_11 : decode c_N_addToRound 11 = .ok (.aload_n 0, 1) := by decide +kernel
theorem d_N_addToRound_12 : decode c_N_addToRound 12 = .ok (.getfield 9, 3) := by decide +kernel
theorem d_N_addToRound_15 : decode c_N_addToRound 15 = .ok (.arraylength, 1) := by decide +kernel
theorem d_N_addToRound_16 : decode c_N_addToRound 16 = .ok (.if_icmp .ge 23, 3) := by decide +kernel
theorem d_N_addToRound_19 : decode c_N_addToRound 19 = .ok (.aload_n 0, 1) := by decide +kernel
theorem d_N_addToRound_20 : decode c_N_addToRound 20 = .ok (.getfield 9, 3) := by decide +kernel
theorem d_N_addToRound_23 : decode c_N_addToRound 23 = .ok (.aload_n 0, 1) := by decide +kernel
theorem d_N_addToRound_24 : decode c_N_addToRound 24 = .ok (.getfield 25, 3) := by decide +kernel
theorem d_N_addToRound_27 : decode c_N_addToRound 27 = .ok (.iload_n 1, 1) := by decide +kernel
theorem d_N_addToRound_28 : decode c_N_addToRound 28 = .ok (.iastore, 1) := by decide +kernel
theorem d_N_addToRound_29 : decode c_N_addToRound 29 = .ok (.aload_n 0, 1) := by decide +kernel
theorem d_N_addToRound_30 : decode c_N_addToRound 30 = .ok (.dup, 1) := by decide +kernel
theorem d_N_addToRound_31 : decode c_N_addToRound 31 = .ok (.getfield 25, 3) := by decide +kernel
theorem d_N_addToRound_34 : decode c_N_addToRound 34 = .ok (.iconst 1, 1) := by decide +kernel
theorem d_N_addToRound_35 : decode c_N_addToRound 35 = .ok (.iadd, 1) := by decide +kernel
theorem d_N_addToRound_36 : decode c_N_addToRound 36 = .ok (.putfield 25, 3) := by decide +kernel
theorem d_N_addToRound_39 : decode c_N_addToRound 39 = .ok (.return_, 1) := by decide +kernel
theorem d_N_whoseTurn_0 : decode c_N_whoseTurn 0 = .ok (.aload_n 0, 1) := by decide +kernel
theorem d_N_whoseTurn_1 : decode c_N_whoseTurn 1 = .ok (.getfield 28, 3) := by decide +kernel
theorem d_N_whoseTurn_4 : decode c_N_whoseTurn 4 = .ok (.ifCond .lt 38, 3) := by decide +kernel
theorem d_N_whoseTurn_7 : decode c_N_whoseTurn 7 = .ok (.aload_n 0, 1) := by decide +kernel
theorem d_N_whoseTurn_8 : decode c_N_whoseTurn 8 = .ok (.getfield 28, 3) := by decide +kernel
theorem d_N_whoseTurn_11 : decode c_N_whoseTurn 11 = .ok (.aload_n 0, 1) := by decide +kernel
theorem d_N_whoseTurn_12 : decode c_N_whoseTurn 12 = .ok (.getfield 25, 3) := by decide +kernel
theorem d_N_whoseTurn_15 : decode c_N_whoseTurn 15 = .ok (.if_icmp .ge 27, 3) := by decide +kernel
theorem d_N_whoseTurn_18 : decode c_N_whoseTurn 18 = .ok (.aload_n 0, 1) := by decide +kernel
theorem d_N_whoseTurn_19 : decode c_N_whoseTurn 19 = .ok (.getfield 28, 3) := by decide +kernel
theorem d_N_whoseTurn_22 : decode c_N_whoseTurn 22 = .ok (.aload_n 0, 1) := by decide +kernel
theorem d_N_whoseTurn_23 : decode c_N_whoseTurn 23 = .ok (.getfield 9, 3) := by decide +kernel
theorem d_N_whoseTurn_26 : decode c_N_whoseTurn 26 = .ok (.arraylength, 1) := by decide +kernel
theorem d_N_whoseTurn_27 : decode c_N_whoseTurn 27 = .ok (.if_icmp .ge 15, 3) := by decide +kernel
theorem d_N_whoseTurn_30 : decode c_N_whoseTurn 30 = .ok (.aload_n 0, 1) := by decide +kernel
theorem d_N_whoseTurn_31 : decode c_N_whoseTurn 31 = .ok (.getfield 9, 3) := by decide +kernel
theorem d_N_whoseTurn_34 : decode c_N_whoseTurn 34 = .ok (.aload_n 0, 1) := by decide +kernel
theorem d_N_whoseTurn_35 : decode c_N_whoseTurn 35 = .ok (.getfield 28, 3) := by decide +kernel
theorem d_N_whoseTurn_38 : decode c_N_whoseTurn 38 = .ok (.iaload, 1) := by decide +kernel
theorem d_N_whoseTurn_39 : decode c_N_whoseTurn 39 = .ok (.goto 4, 3) := by decide +kernel
theorem d_N_whoseTurn_42 : decode c_N_whoseTurn 42 = .ok (.iconst (-1), 1) := by decide +kernel
theorem d_N_whoseTurn_43 : decode c_N_whoseTurn 43 = .ok (.ireturn, 1) := by decide +kernel
theorem d_N_attend_0 : decode c_N_attend 0 = .ok (.aload_n 0, 1) := by decide +kernel
theorem d_N_attend_1 : decode c_N_attend 1 = .ok (.getfield 15, 3) := by decide +kernel
theorem d_N_attend_4 : decode c_N_attend 4 = .ok (.aload_n 0, 1) := by decide +kernel
theorem d_N_attend_5 : decode c_N_attend 5 = .ok (.getfield 19, 3) := by decide +kernel
theorem d_N_attend_8 : decode c_N_attend 8 = .ok (.aload_n 1, 1) := by decide +kernel
theorem d_N_attend_9 : decode c_N_attend 9 = .ok (.getfield 34, 3) := by decide +kernel
theorem d_N_attend_12 : decode c_N_attend 12 = .ok (.aload_n 1, 1) := by decide +kernel
theorem d_N_attend_13 : decode c_N_attend 13 = .ok (.getfield 37, 3) := by decide +kernel
theorem d_N_attend_16 : decode c_N_attend 16 = .ok (.invokestatic 38, 3) := by decide +kernel
theorem d_N_attend_19 : decode c_N_attend 19 = .ok (.istore_n 2, 1) := by decide +kernel
theorem d_N_attend_20 : decode c_N_attend 20 = .ok (.aload_n 1, 1) := by decide +kernel
theorem d_N_attend_21 : decode c_N_attend 21 = .ok (.getfield 42, 3) := by decide +kernel
theorem d_N_attend_24 : decode c_N_attend 24 = .ok (.sipush 150, 3) := by decide +kernel
theorem d_N_attend_27 : decode c_N_attend 27 = .ok (.if_icmp .lt 10, 3) := by decide +kernel
theorem d_N_attend_30 : decode c_N_attend 30 = .ok (.aload_n 0, 1) := by decide +kernel
theorem d_N_attend_31 : decode c_N_attend 31 = .ok (.invokevirtual 45, 3) := by decide +kernel
theorem d_N_attend_34 : decode c_N_attend 34 = .ok (.goto 97, 3) := by decide +kernel
theorem d_N_attend_37 : decode c_N_attend 37 = .ok (.iload_n 2, 1) := by decide +kernel
theorem d_N_attend_38 : decode c_N_attend 38 = .ok (.iconst 1, 1) := by decide +kernel
theorem d_N_attend_39 : decode c_N_attend 39 = .ok (.if_icmp .gt 28, 3) := by decide +kernel
theorem d_N_attend_42 : decode c_N_attend 42 = .ok (.aload_n 1, 1) := by decide +kernel
theorem d_N_attend_43 : decode c_N_attend 43 = .ok (.aload_n 0, 1) := by decide +kernel
theorem d_N_attend_44 : decode c_N_attend 44 = .ok (.getfield 22, 3) := by decide +kernel
theorem d_N_attend_47 : decode c_N_attend 47 = .ok (.invokevirtual 48, 3) := by decide +kernel
theorem d_N_attend_50 : decode c_N_attend 50 = .ok (.aload_n 0, 1) := by decide +kernel
theorem d_N_attend_51 : decode c_N_attend 51 = .ok (.dup, 1) := by decide +kernel
theorem d_N_attend_52 : decode c_N_attend 52 = .ok (.getfield 31, 3) := by decide +kernel
theorem d_N_attend_55 : decode c_N_attend 55 = .ok (.iconst 1, 1) := by decide +kernel
theorem d_N_attend_56 : decode c_N_attend 56 = .ok (.iadd, 1) := by decide +kernel
theorem d_N_attend_57 : decode c_N_attend 57 = .ok (.putfield 31, 3) := by decide +kernel
theorem d_N_attend_60 : decode c_N_attend 60 = .ok (.aload_n 0, 1) := by decide +kernel
theorem d_N_attend_61 : decode c_N_attend 61 = .ok (.invokevirtual 45, 3) := by decide +kernel
theorem d_N_attend_64 : decode c_N_attend 64 = .ok (.goto 67, 3) := by decide +kernel
theorem d_N_attend_67 : decode c_N_attend 67 = .ok (.aload_n 0, 1) := by decide +kernel
theorem d_N_attend_68 : decode c_N_attend 68 = .ok (.getfield 15, 3) := by decide +kernel
theorem d_N_attend_71 : decode c_N_attend 71 = .ok (.aload_n 1, 1) := by decide +kernel
theorem d_N_attend_72 : decode c_N_attend 72 = .ok (.getfield 34, 3) := by decide +kernel
theorem d_N_attend_75 : decode c_N_attend 75 = .ok (.if_icmp .eq 31, 3) := by decide +kernel
theorem d_N_attend_78 : decode c_N_attend 78 = .ok (.aload_n 0, 1) := by decide +kernel
theorem d_N_attend_79 : decode c_N_attend 79 = .ok (.dup, 1) := by decide +kernel
theorem d_N_attend_80 : decode c_N_attend 80 = .ok (.getfield 15, 3) := by decide +kernel
theorem d_N_attend_83 : decode c_N_attend 83 = .ok (.aload_n 1, 1) := by decide +kernel
theorem d_N_attend_84 : decode c_N_attend 84 = .ok (.getfield 34, 3) := by decide +kernel
theorem d_N_attend_87 : decode c_N_attend 87 = .ok (.aload_n 0, 1) := by decide +kernel
theorem d_N_attend_88 : decode c_N_attend 88 = .ok (.getfield 15, 3) := by decide +kernel
theorem d_N_attend_91 : decode c_N_attend 91 = .ok (.if_icmp .le 7, 3) := by decide +kernel
theorem d_N_attend_94 : decode c_N_attend 94 = .ok (.iconst 1, 1) := by decide +kernel
theorem d_N_attend_95 : decode c_N_attend 95 = .ok (.goto 4, 3) := by decide +kernel
theorem d_N_attend_98 : decode c_N_attend 98 = .ok (.iconst (-1), 1) := by decide +kernel
theorem d_N_attend_99 : decode c_N_attend 99 = .ok (.iadd, 1) := by decide +kernel
theorem d_N_attend_100 : decode c_N_attend 100 = .ok (.putfield 15, 3) := by decide +kernel
theorem d_N_attend_103 : decode c_N_attend 103 = .ok (.goto 28, 3) := by decide +kernel
theorem d_N_attend_106 : decode c_N_attend 106 = .ok (.aload_n 0, 1) := by decide +kernel
theorem d_N_attend_107 : decode c_N_attend 107 = .ok (.dup, 1) := by decide +kernel
theorem d_N_attend_108 : decode c_N_attend 108 = .ok (.getfield 19, 3) := by decide +kernel
theorem d_N_attend_111 : decode c_N_attend 111 = .ok (.aload_n 1, 1) := by decide +kernel
theorem d_N_attend_112 : decode c_N_attend 112 = .ok (.getfield 37, 3) := by decide +kernel
theorem d_N_attend_115 : decode c_N_attend 115 = .ok (.aload_n 0, 1) := by decide +kernel
theorem d_N_attend_116 : decode c_N_attend 116 = .ok (.getfield 19, 3) := by decide +kernel
theorem d_N_attend_119 : decode c_N_attend 119 = .ok (.if_icmp .le 7, 3) := by decide +kernel
theorem d_N_attend_122 : decode c_N_attend 122 = .ok (.iconst 1, 1) := by decide +kernel
theorem d_N_attend_123 : decode c_N_attend 123 = .ok (.goto 4, 3) := by decide +kernel
theorem d_N_attend_126 : decode c_N_attend 126 = .ok (.iconst (-1), 1) := by decide +kernel
theorem d_N_attend_127 : decode c_N_attend 127 = .ok (.iadd, 1) := by decide +kernel
theorem d_N_attend_128 : decode c_N_attend 128 = .ok (.putfield 19, 3) := by decide +kernel
theorem d_N_attend_131 : decode c_N_attend 131 = .ok (.return_, 1) := by decide +kernel
theorem d_N_passTurn_0 : decode c_N_passTurn 0 = .ok (.aload_n 0, 1) := by decide +kernel
theorem d_N_passTurn_1 : decode c_N_passTurn 1 = .ok (.aload_n 0, 1) := by decide +kernel
theorem d_N_passTurn_2 : decode c_N_passTurn 2 = .ok (.getfield 28, 3) := by decide +kernel
theorem d_N_passTurn_5 : decode c_N_passTurn 5 = .ok (.iconst 1, 1) := by decide +kernel
theorem d_N_passTurn_6 : decode c_N_passTurn 6 = .ok (.iadd, 1) := by decide +kernel
theorem d_N_passTurn_7 : decode c_N_passTurn 7 = .ok (.aload_n 0, 1) := by decide +kernel
theorem d_N_passTurn_8 : decode c_N_passTurn 8 = .ok (.getfield 25, 3) := by decide +kernel
theorem d_N_passTurn_11 : decode c_N_passTurn 11 = .ok (.if_icmp .ge 12, 3) := by decide +kernel
theorem d_N_passTurn_14 : decode c_N_passTurn 14 = .ok (.aload_n 0, 1) := by decide +kernel
theorem d_N_passTurn_15 : decode c_N_passTurn 15 = .ok (.getfield 28, 3) := by decide +kernel
theorem d_N_passTurn_18 : decode c_N_passTurn 18 = .ok (.iconst 1, 1) := by decide +kernel
theorem d_N_passTurn_19 : decode c_N_passTurn 19 = .ok (.iadd, 1) := by decide +kernel
theorem d_N_passTurn_20 : decode c_N_passTurn 20 = .ok (.goto 4, 3) := by decide +kernel
theorem d_N_passTurn_23 : decode c_N_passTurn 23 = .ok (.iconst 0, 1) := by decide +kernel
theorem d_N_passTurn_24 : decode c_N_passTurn 24 = .ok (.putfield 28, 3) := by decide +kernel
theorem d_N_passTurn_27 : decode c_N_passTurn 27 = .ok (.return_, 1) := by decide +kernel
theorem d_N_tell_0 : decode c_N_tell 0 = .ok (.iload_n 1, 1) := by decide +kernel
theorem d_N_tell_1 : decode c_N_tell 1 = .ok (.tableswitch 60 0 4 #[35, 40, 45, 50, 55], 35) := by decide +kernel
theorem d_N_tell_36 : decode c_N_tell 36 = .ok (.aload_n 0, 1) := by decide +kernel
theorem d_N_tell_37 : decode c_N_tell 37 = .ok (.getfield 15, 3) := by decide +kernel
theorem d_N_tell_40 : decode c_N_tell 40 = .ok (.ireturn, 1) := by decide +kernel
theorem d_N_tell_41 : decode c_N_tell 41 = .ok (.aload_n 0, 1) := by decide +kernel
theorem d_N_tell_42 : decode c_N_tell 42 = .ok (.getfield 19, 3) := by decide +kernel
theorem d_N_tell_45 : decode c_N_tell 45 = .ok (.ireturn, 1) := by decide +kernel
theorem d_N_tell_46 : decode c_N_tell 46 = .ok (.aload_n 0, 1) := by decide +kernel
theorem d_N_tell_47 : decode c_N_tell 47 = .ok (.getfield 22, 3) := by decide +kernel
theorem d_N_tell_50 : decode c_N_tell 50 = .ok (.ireturn, 1) := by decide +kernel
theorem d_N_tell_51 : decode c_N_tell 51 = .ok (.aload_n 0, 1) := by decide +kernel
theorem d_N_tell_52 : decode c_N_tell 52 = .ok (.getfield 25, 3) := by decide +kernel
theorem d_N_tell_55 : decode c_N_tell 55 = .ok (.ireturn, 1) := by decide +kernel
theorem d_N_tell_56 : decode c_N_tell 56 = .ok (.aload_n 0, 1) := by decide +kernel
theorem d_N_tell_57 : decode c_N_tell 57 = .ok (.invokevirtual 52, 3) := by decide +kernel
theorem d_N_tell_60 : decode c_N_tell 60 = .ok (.ireturn, 1) := by decide +kernel
theorem d_N_tell_61 : decode c_N_tell 61 = .ok (.aload_n 0, 1) := by decide +kernel
theorem d_N_tell_62 : decode c_N_tell 62 = .ok (.getfield 31, 3) := by decide +kernel
theorem d_N_tell_65 : decode c_N_tell 65 = .ok (.ireturn, 1) := by decide +kernel
