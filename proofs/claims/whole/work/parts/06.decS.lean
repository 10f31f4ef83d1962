theorem d_S_init_0 : decode c_S_init 0 = .ok (.aload_n 0, 1) := by decide +kernel
theorem d_S_init_1 : decode c_S_init 1 = .ok (.aload_n 1, 1) := by decide +kernel
theorem d_S_init_2 : decode c_S_init 2 = .ok (.putfield 3, 3) := by decide +kernel
theorem d_S_init_5 : decode c_S_init 5 = .ok (.aload_n 0, 1) := by decide +kernel
theorem d_S_init_6 : decode c_S_init 6 = .ok (.invokespecial 9, 3) := by decide +kernel
theorem d_S_init_9 : decode c_S_init 9 = .ok (.aload_n 0, 1) := by decide +kernel
theorem d_S_init_10 : decode c_S_init 10 = .ok (.bipush 8, 2) := by decide +kernel
theorem d_S_init_12 : decode c_S_init 12 = .ok (.newarray .int, 2) := by decide +kernel
theorem d_S_init_14 : decode c_S_init 14 = .ok (.putfield 15, 3) := by decide +kernel
theorem d_S_init_17 : decode c_S_init 17 = .ok (.aload_n 0, 1) := by decide +kernel
theorem d_S_init_18 : decode c_S_init 18 = .ok (.bipush 8, 2) := by decide +kernel
theorem d_S_init_20 : decode c_S_init 20 = .ok (.newarray .int, 2) := by decide +kernel
theorem d_S_init_22 : decode c_S_init 22 = .ok (.putfield 19, 3) := by decide +kernel
theorem d_S_init_25 : decode c_S_init 25 = .ok (.aload_n 0, 1) := by decide +kernel
theorem d_S_init_26 : decode c_S_init 26 = .ok (.bipush 8, 2) := by decide +kernel
theorem d_S_init_28 : decode c_S_init 28 = .ok (.newarray .int, 2) := by decide +kernel
theorem d_S_init_30 : decode c_S_init 30 = .ok (.putfield 22, 3) := by decide +kernel
theorem d_S_init_33 : decode c_S_init 33 = .ok (.aload_n 0, 1) := by decide +kernel
theorem d_S_init_34 : decode c_S_init 34 = .ok (.bipush 8, 2) := by decide +kernel
theorem d_S_init_36 : decode c_S_init 36 = .ok (.newarray .int, 2) := by decide +kernel
theorem d_S_init_38 : decode c_S_init 38 = .ok (.putfield 25, 3) := by decide +kernel
theorem d_S_init_41 : decode c_S_init 41 = .ok (.aload_n 0, 1) := by decide +kernel
theorem d_S_init_42 : decode c_S_init 42 = .ok (.bipush 8, 2) := by decide +kernel
theorem d_S_init_44 : decode c_S_init 44 = .ok (.newarray .int, 2) := by decide +kernel
theorem d_S_init_46 : decode c_S_init 46 = .ok (.putfield 28, 3) := by decide +kernel
theorem d_S_init_49 : decode c_S_init 49 = .ok (.aload_n 0, 1) := by decide +kernel
theorem d_S_init_50 : decode c_S_init 50 = .ok (.bipush 8, 2) := by decide +kernel
theorem d_S_init_52 : decode c_S_init 52 = .ok (.newarray .int, 2) := by decide +kernel
theorem d_S_init_54 : decode c_S_init 54 = .ok (.putfield 31, 3) := by decide +kernel
theorem d_S_init_57 : decode c_S_init 57 = .ok (.aload_n 0, 1) := by decide +kernel
theorem d_S_init_58 : decode c_S_init 58 = .ok (.bipush 8, 2) := by decide +kernel
theorem d_S_init_60 : decode c_S_init 60 = .ok (.newarray .int, 2) := by decide +kernel
theorem d_S_init_62 : decode c_S_init 62 = .ok (.putfield 34, 3) := by decide +kernel
theorem d_S_init_65 : decode c_S_init 65 = .ok (.aload_n 0, 1) := by decide +kernel
theorem d_S_init_66 : decode c_S_init 66 = .ok (.bipush 8, 2) := by decide +kernel
theorem d_S_init_68 : decode c_S_init 68 = .ok (.newarray .int, 2) := by decide +kernel
theorem d_S_init_70 : decode c_S_init 70 = .ok (.putfield 37, 3) := by decide +kernel
theorem d_S_init_73 : decode c_S_init 73 = .ok (.aload_n 0, 1) := by decide +kernel
theorem d_S_init_74 : decode c_S_init 74 = .ok (.bipush 8, 2) := by decide +kernel
theorem d_S_init_76 : decode c_S_init 76 = .ok (.newarray .boolean, 2) := by decide +kernel
theorem d_S_init_78 : decode c_S_init 78 = .ok (.putfield 40, 3) := by decide +kernel
theorem d_S_init_81 : decode c_S_init 81 = .ok (.aload_n 0, 1) := by decide +kernel
theorem d_S_init_82 : decode c_S_init 82 = .ok (.bipush 8, 2) := by decide +kernel
theorem d_S_init_84 : decode c_S_init 84 = .ok (.newarray .int, 2) := by decide +kernel
theorem d_S_init_86 : decode c_S_init 86 = .ok (.putfield 44, 3) := by decide +kernel
theorem d_S_init_89 : decode c_S_init 89 = .ok (.aload_n 0, 1) := by decide +kernel
theorem d_S_init_90 : decode c_S_init 90 = .ok (.bipush 8, 2) := by decide +kernel
theorem d_S_init_92 : decode c_S_init 92 = .ok (.newarray .int, 2) := by decide +kernel
theorem d_S_init_94 : decode c_S_init 94 = .ok (.putfield 47, 3) := by decide +kernel
theorem d_S_init_97 : decode c_S_init 97 = .ok (.aload_n 0, 1) := by decide +kernel
theorem d_S_init_98 : decode c_S_init 98 = .ok (.bipush 8, 2) := by decide +kernel
theorem d_S_init_100 : decode c_S_init 100 = .ok (.newarray .int, 2) := by decide +kernel
theorem d_S_init_102 : decode c_S_init 102 = .ok (.putfield 50, 3) := by decide +kernel
theorem d_S_init_105 : decode c_S_init 105 = .ok (.aload_n 0, 1) := by decide +kernel
theorem d_S_init_106 : decode c_S_init 106 = .ok (.bipush 18, 2) := by decide +kernel
theorem d_S_init_108 : decode c_S_init 108 = .ok (.newarray .int, 2) := by decide +kernel
theorem d_S_init_110 : decode c_S_init 110 = .ok (.putfield 53, 3) := by decide +kernel
theorem d_S_init_113 : decode c_S_init 113 = .ok (.aload_n 0, 1) := by decide +kernel
theorem d_S_init_114 : decode c_S_init 114 = .ok (.bipush 24, 2) := by decide +kernel
theorem d_S_init_116 : decode c_S_init 116 = .ok (.newarray .int, 2) := by decide +kernel
theorem d_S_init_118 : decode c_S_init 118 = .ok (.putfield 56, 3) := by decide +kernel
theorem d_S_init_121 : decode c_S_init 121 = .ok (.return_, 1) := by decide +kernel
theorem d_S_copy_0 : decode c_S_copy 0 = .ok (.aload_n 1, 1) := by decide +kernel
theorem d_S_copy_1 : decode c_S_copy 1 = .ok (.iconst 0, 1) := by decide +kernel
theorem d_S_copy_2 : decode c_S_copy 2 = .ok (.aload_n 2, 1) := by decide +kernel
theorem d_S_copy_3 : decode c_S_copy 3 = .ok (.iconst 0, 1) := by decide +kernel
theorem d_S_copy_4 : decode c_S_copy 4 = .ok (.aload_n 1, 1) := by decide +kernel
theorem d_S_copy_5 : decode c_S_copy 5 = .ok (.arraylength, 1) := by decide +kernel
theorem d_S_copy_6 : decode c_S_copy 6 = .ok (.invokestatic 59, 3) := by decide +kernel
theorem d_S_copy_9 : decode c_S_copy 9 = .ok (.return_, 1) := by decide +kernel
theorem d_S_become_0 : decode c_S_become 0 = .ok (.aload_n 0, 1) := by decide +kernel
theorem d_S_become_1 : decode c_S_become 1 = .ok (.aload_n 1, 1) := by decide +kernel
theorem d_S_become_2 : decode c_S_become 2 = .ok (.getfield 65, 3) := by decide +kernel
theorem d_S_become_5 : decode c_S_become 5 = .ok (.putfield 65, 3) := by decide +kernel
theorem d_S_become_8 : decode c_S_become 8 = .ok (.aload_n 0, 1) := by decide +kernel
theorem d_S_become_9 : decode c_S_become 9 = .ok (.aload_n 1, 1) := by decide +kernel
theorem d_S_become_10 : decode c_S_become 10 = .ok (.getfield 69, 3) := by decide +kernel
theorem d_S_become_13 : decode c_S_become 13 = .ok (.putfield 69, 3) := by decide +kernel
theorem d_S_become_16 : decode c_S_become 16 = .ok (.aload_n 0, 1) := by decide +kernel
theorem d_S_become_17 : decode c_S_become 17 = .ok (.aload_n 1, 1) := by decide +kernel
theorem d_S_become_18 : decode c_S_become 18 = .ok (.getfield 72, 3) := by decide +kernel
theorem d_S_become_21 : decode c_S_become 21 = .ok (.putfield 72, 3) := by decide +kernel
theorem d_S_become_24 : decode c_S_become 24 = .ok (.aload_n 0, 1) := by decide +kernel
theorem d_S_become_25 : decode c_S_become 25 = .ok (.aload_n 1, 1) := by decide +kernel
theorem d_S_become_26 : decode c_S_become 26 = .ok (.getfield 15, 3) := by decide +kernel
theorem d_S_become_29 : decode c_S_become 29 = .ok (.aload_n 0, 1) := by decide +kernel
theorem d_S_become_30 : decode c_S_become 30 = .ok (.getfield 15, 3) := by decide +kernel
theorem d_S_become_33 : decode c_S_become 33 = .ok (.invokevirtual 75, 3) := by decide +kernel
theorem d_S_become_36 : decode c_S_become 36 = .ok (.aload_n 0, 1) := by decide +kernel
theorem d_S_become_37 : decode c_S_become 37 = .ok (.aload_n 1, 1) := by decide +kernel
theorem d_S_become_38 : decode c_S_become 38 = .ok (.getfield 19, 3) := by decide +kernel
theorem d_S_become_41 : decode c_S_become 41 = .ok (.aload_n 0, 1) := by decide +kernel
theorem d_S_become_42 : decode c_S_become 42 = .ok (.getfield 19, 3) := by decide +kernel
theorem d_S_become_45 : decode c_S_become 45 = .ok (.invokevirtual 75, 3) := by decide +kernel
theorem d_S_become_48 : decode c_S_become 48 = .ok (.aload_n 0, 1) := by decide +kernel
theorem d_S_become_49 : decode c_S_become 49 = .ok (.aload_n 1, 1) := by decide +kernel
theorem d_S_become_50 : decode c_S_become 50 = .ok (.getfield 22, 3) := by decide +kernel
theorem d_S_become_53 : decode c_S_become 53 = .ok (.aload_n 0, 1) := by decide +kernel
theorem d_S_become_54 : decode c_S_become 54 = .ok (.getfield 22, 3) := by decide +kernel
theorem d_S_become_57 : decode c_S_become 57 = .ok (.invokevirtual 75, 3) := by decide +kernel
theorem d_S_become_60 : decode c_S_become 60 = .ok (.aload_n 0, 1) := by decide +kernel
theorem d_S_become_61 : decode c_S_become 61 = .ok (.aload_n 1, 1) := by decide +kernel
theorem d_S_become_62 : decode c_S_become 62 = .ok (.getfield 25, 3) := by decide +kernel
theorem d_S_become_65 : decode c_S_become 65 = .ok (.aload_n 0, 1) := by decide +kernel
theorem d_S_become_66 : decode c_S_become 66 = .ok (.getfield 25, 3) := by decide +kernel
theorem d_S_become_69 : decode c_S_become 69 = .ok (.invokevirtual 75, 3) := by decide +kernel
theorem d_S_become_72 : decode c_S_become 72 = .ok (.aload_n 0, 1) := by decide +kernel
theorem d_S_become_73 : decode c_S_become 73 = .ok (.aload_n 1, 1) := by decide +kernel
theorem d_S_become_74 : decode c_S_become 74 = .ok (.getfield 28, 3) := by decide +kernel
theorem d_S_become_77 : decode c_S_become 77 = .ok (.aload_n 0, 1) := by decide +kernel
theorem d_S_become_78 : decode c_S_become 78 = .ok (.getfield 28, 3) := by decide +kernel
theorem d_S_become_81 : decode c_S_become 81 = .ok (.invokevirtual 75, 3) := by decide +kernel
theorem d_S_become_84 : decode c_S_become 84 = .ok (.aload_n 0, 1) := by decide +kernel
theorem d_S_become_85 : decode c_S_become 85 = .ok (.aload_n 1, 1) := by decide +kernel
theorem d_S_become_86 : decode c_S_become 86 = .ok (.getfield 31, 3) := by decide +kernel
theorem d_S_become_89 : decode c_S_become 89 = .ok (.aload_n 0, 1) := by decide +kernel
theorem d_S_become_90 : decode c_S_become 90 = .ok (.getfield 31, 3) := by decide +kernel
theorem d_S_become_93 : decode c_S_become 93 = .ok (.invokevirtual 75, 3) := by decide +kernel
theorem d_S_become_96 : decode c_S_become 96 = .ok (.aload_n 0, 1) := by decide +kernel
theorem d_S_become_97 : decode c_S_become 97 = .ok (.aload_n 1, 1) := by decide +kernel
theorem d_S_become_98 : decode c_S_become 98 = .ok (.getfield 34, 3) := by decide +kernel
theorem d_S_become_101 : decode c_S_become 101 = .ok (.aload_n 0, 1) := by decide +kernel
theorem d_S_become_102 : decode c_S_become 102 = .ok (.getfield 34, 3) := by decide +kernel
theorem d_S_become_105 : decode c_S_become 105 = .ok (.invokevirtual 75, 3) := by decide +kernel
theorem d_S_become_108 : decode c_S_become 108 = .ok (.aload_n 0, 1) := by decide +kernel
theorem d_S_become_109 : decode c_S_become 109 = .ok (.aload_n 1, 1) := by decide +kernel
theorem d_S_become_110 : decode c_S_become 110 = .ok (.getfield 37, 3) := by decide +kernel
theorem d_S_become_113 : decode c_S_become 113 = .ok (.aload_n 0, 1) := by decide +kernel
theorem d_S_become_114 : decode c_S_become 114 = .ok (.getfield 37, 3) := by decide +kernel
theorem d_S_become_117 : decode c_S_become 117 = .ok (.invokevirtual 75, 3) := by decide +kernel
theorem d_S_become_120 : decode c_S_become 120 = .ok (.aload_n 1, 1) := by decide +kernel
theorem d_S_become_121 : decode c_S_become 121 = .ok (.getfield 40, 3) := by decide +kernel
theorem d_S_become_124 : decode c_S_become 124 = .ok (.iconst 0, 1) := by decide +kernel
theorem d_S_become_125 : decode c_S_become 125 = .ok (.aload_n 0, 1) := by decide +kernel
theorem d_S_become_126 : decode c_S_become 126 = .ok (.getfield 40, 3) := by decide +kernel
theorem d_S_become_129 : decode c_S_become 129 = .ok (.iconst 0, 1) := by decide +kernel
theorem d_S_become_130 : decode c_S_become 130 = .ok (.bipush 8, 2) := by decide +kernel
theorem d_S_become_132 : decode c_S_become 132 = .ok (.invokestatic 59, 3) := by decide +kernel
theorem d_S_become_135 : decode c_S_become 135 = .ok (.aload_n 0, 1) := by decide +kernel
theorem d_S_become_136 : decode c_S_become 136 = .ok (.aload_n 1, 1) := by decide +kernel
theorem d_S_become_137 : decode c_S_become 137 = .ok (.getfield 44, 3) := by decide +kernel
theorem d_S_become_140 : decode c_S_become 140 = .ok (.aload_n 0, 1) := by decide +kernel
theorem d_S_become_141 : decode c_S_become 141 = .ok (.getfield 44, 3) := by decide +kernel
theorem d_S_become_144 : decode c_S_become 144 = .ok (.invokevirtual 75, 3) := by decide +kernel
theorem d_S_become_147 : decode c_S_become 147 = .ok (.aload_n 0, 1) := by decide +kernel
theorem d_S_become_148 : decode c_S_become 148 = .ok (.aload_n 1, 1) := by decide +kernel
theorem d_S_become_149 : decode c_S_become 149 = .ok (.getfield 47, 3) := by decide +kernel
theorem d_S_become_152 : decode c_S_become 152 = .ok (.aload_n 0, 1) := by decide +kernel
theorem d_S_become_153 : decode c_S_become 153 = .ok (.getfield 47, 3) := by decide +kernel
theorem d_S_become_156 : decode c_S_become 156 = .ok (.invokevirtual 75, 3) := by decide +kernel
theorem d_S_become_159 : decode c_S_become 159 = .ok (.aload_n 0, 1) := by decide +kernel
theorem d_S_become_160 : decode c_S_become 160 = .ok (.aload_n 1, 1) := by decide +kernel
theorem d_S_become_161 : decode c_S_become 161 = .ok (.getfield 50, 3) := by decide +kernel
theorem d_S_become_164 : decode c_S_become 164 = .ok (.aload_n 0, 1) := by decide +kernel
theorem d_S_become_165 : decode c_S_become 165 = .ok (.getfield 50, 3) := by decide +kernel
theorem d_S_become_168 : decode c_S_become 168 = .ok (.invokevirtual 75, 3) := by decide +kernel
theorem d_S_become_171 : decode c_S_become 171 = .ok (.aload_n 0, 1) := by decide +kernel
theorem d_S_become_172 : decode c_S_become 172 = .ok (.aload_n 1, 1) := by decide +kernel
theorem d_S_become_173 : decode c_S_become 173 = .ok (.getfield 53, 3) := by decide +kernel
theorem d_S_become_176 : decode c_S_become 176 = .ok (.aload_n 0, 1) := by decide +kernel
theorem d_S_become_177 : decode c_S_become 177 = .ok (.getfield 53, 3) := by decide +kernel
theorem d_S_become_180 : decode c_S_become 180 = .ok (.invokevirtual 75, 3) := by decide +kernel
theorem d_S_become_183 : decode c_S_become 183 = .ok (.aload_n 0, 1) := by decide +kernel
theorem d_S_become_184 : decode c_S_become 184 = .ok (.aload_n 1, 1) := by decide +kernel
theorem d_S_become_185 : decode c_S_become 185 = .ok (.getfield 56, 3) := by decide +kernel
theorem d_S_become_188 : decode c_S_become 188 = .ok (.aload_n 0, 1) := by decide +kernel
theorem d_S_become_189 : decode c_S_become 189 = .ok (.getfield 56, 3) := by decide +kernel
theorem d_S_become_192 : decode c_S_become 192 = .ok (.invokevirtual 75, 3) := by decide +kernel
theorem d_S_become_195 : decode c_S_become 195 = .ok (.return_, 1) := by decide +kernel
theorem d_S_at_0 : decode c_S_at 0 = .ok (.iconst (-1), 1) := by decide +kernel
theorem d_S_at_1 : decode c_S_at 1 = .ok (.istore_n 3, 1) := by decide +kernel
theorem d_S_at_2 : decode c_S_at 2 = .ok (.iconst 0, 1) := by decide +kernel
theorem d_S_at_3 : decode c_S_at 3 = .ok (.istore 4, 2) := by decide +kernel
theorem d_S_at_5 : decode c_S_at 5 = .ok (.iload 4, 2) := by decide +kernel
theorem d_S_at_7 : decode c_S_at 7 = .ok (.aload_n 0, 1) := by decide +kernel
theorem d_S_at_8 : decode c_S_at 8 = .ok (.getfield 69, 3) := by decide +kernel
theorem d_S_at_11 : decode c_S_at 11 = .ok (.if_icmp .ge 34, 3) := by decide +kernel
theorem d_S_at_14 : decode c_S_at 14 = .ok (.aload_n 0, 1) := by decide +kernel
theorem d_S_at_15 : decode c_S_at 15 = .ok (.getfield 15, 3) := by decide +kernel
theorem d_S_at_18 : decode c_S_at 18 = .ok (.iload 4, 2) := by decide +kernel
theorem d_S_at_20 : decode c_S_at 20 = .ok (.iaload, 1) := by decide +kernel
theorem d_S_at_21 : decode c_S_at 21 = .ok (.iload_n 1, 1) := by decide +kernel
theorem d_S_at_22 : decode c_S_at 22 = .ok (.if_icmp .ne 17, 3) := by decide +kernel
theorem d_S_at_25 : decode c_S_at 25 = .ok (.aload_n 0, 1) := by decide +kernel
theorem d_S_at_26 : decode c_S_at 26 = .ok (.getfield 19, 3) := by decide +kernel
theorem d_S_at_29 : decode c_S_at 29 = .ok (.iload 4, 2) := by decide +kernel
theorem d_S_at_31 : decode c_S_at 31 = .ok (.iaload, 1) := by decide +kernel
theorem d_S_at_32 : decode c_S_at 32 = .ok (.iload_n 2, 1) := by decide +kernel
theorem d_S_at_33 : decode c_S_at 33 = .ok (.if_icmp .ne 6, 3) := by decide +kernel
theorem d_S_at_36 : decode c_S_at 36 = .ok (.iload 4, 2) := by decide +kernel
theorem d_S_at_38 : decode c_S_at 38 = .ok (.istore_n 3, 1) := by decide +kernel
theorem d_S_at_39 : decode c_S_at 39 = .ok (.iinc 4 1, 3) := by decide +kernel
theorem d_S_at_42 : decode c_S_at 42 = .ok (.goto (-37), 3) := by decide +kernel
theorem d_S_at_45 : decode c_S_at 45 = .ok (.iload_n 3, 1) := by decide +kernel
theorem d_S_at_46 : decode c_S_at 46 = .ok (.ireturn, 1) := by decide +kernel
theorem d_S_isBeside_0 : decode c_S_isBeside 0 = .ok (.aload_n 0, 1) := by decide +kernel
theorem d_S_isBeside_1 : decode c_S_isBeside 1 = .ok (.getfield 15, 3) := by decide +kernel
theorem d_S_isBeside_4 : decode c_S_isBeside 4 = .ok (.iload_n 1, 1) := by decide +kernel
theorem d_S_isBeside_5 : decode c_S_isBeside 5 = .ok (.iaload, 1) := by decide +kernel
theorem d_S_isBeside_6 : decode c_S_isBeside 6 = .ok (.aload_n 0, 1) := by decide +kernel
theorem d_S_isBeside_7 : decode c_S_isBeside 7 = .ok (.getfield 15, 3) := by decide +kernel
theorem d_S_isBeside_10 : decode c_S_isBeside 10 = .ok (.iload_n 2, 1) := by decide +kernel
theorem d_S_isBeside_11 : decode c_S_isBeside 11 = .ok (.iaload, 1) := by decide +kernel
theorem d_S_isBeside_12 : decode c_S_isBeside 12 = .ok (.isub, 1) := by decide +kernel
theorem d_S_isBeside_13 : decode c_S_isBeside 13 = .ok (.invokestatic 79, 3) := by decide +kernel
theorem d_S_isBeside_16 : decode c_S_isBeside 16 = .ok (.aload_n 0, 1) := by decide +kernel
theorem d_S_isBeside_17 : decode c_S_isBeside 17 = .ok (.getfield 19, 3) := by decide +kernel
theorem d_S_isBeside_20 : decode c_S_isBeside 20 = .ok (.iload_n 1, 1) := by decide +kernel
theorem d_S_isBeside_21 : decode c_S_isBeside 21 = .ok (.iaload, 1) := by decide +kernel
theorem d_S_isBeside_22 : decode c_S_isBeside 22 = .ok (.aload_n 0, 1) := by decide +kernel
theorem d_S_isBeside_23 : decode c_S_isBeside 23 = .ok (.getfield 19, 3) := by decide +kernel
theorem d_S_isBeside_26 : decode c_S_isBeside 26 = .ok (.iload_n 2, 1) := by decide +kernel
theorem d_S_isBeside_27 : decode c_S_isBeside 27 = .ok (.iaload, 1) := by decide +kernel
theorem d_S_isBeside_28 : decode c_S_isBeside 28 = .ok (.isub, 1) := by decide +kernel
theorem d_S_isBeside_29 : decode c_S_isBeside 29 = .ok (.invokestatic 79, 3) := by decide +kernel
theorem d_S_isBeside_32 : decode c_S_isBeside 32 = .ok (.iadd, 1) := by decide +kernel
theorem d_S_isBeside_33 : decode c_S_isBeside 33 = .ok (.iconst 1, 1) := by decide +kernel
theorem d_S_isBeside_34 : decode c_S_isBeside 34 = .ok (.if_icmp .ne 7, 3) := by decide +kernel
theorem d_S_isBeside_37 : decode c_S_isBeside 37 = .ok (.iconst 1, 1) := by decide +kernel
theorem d_S_isBeside_38 : decode c_S_isBeside 38 = .ok (.goto 4, 3) := by decide +kernel
theorem d_S_isBeside_41 : decode c_S_isBeside 41 = .ok (.iconst 0, 1) := by decide +kernel
theorem d_S_isBeside_42 : decode c_S_isBeside 42 = .ok (.ireturn, 1) := by decide +kernel
theorem d_S_isTired_0 : decode c_S_isTired 0 = .ok (.aload_n 0, 1) := by decide +kernel
theorem d_S_isTired_1 : decode c_S_isTired 1 = .ok (.getfield 25, 3) := by decide +kernel
theorem d_S_isTired_4 : decode c_S_isTired 4 = .ok (.iload_n 1, 1) := by decide +kernel
theorem d_S_isTired_5 : decode c_S_isTired 5 = .ok (.iaload, 1) := by decide +kernel
theorem d_S_isTired_6 : decode c_S_isTired 6 = .ok (.aload_n 0, 1) := by decide +kernel
theorem d_S_isTired_7 : decode c_S_isTired 7 = .ok (.getfield 28, 3) := by decide +kernel
theorem d_S_isTired_10 : decode c_S_isTired 10 = .ok (.iload_n 1, 1) := by decide +kernel
theorem d_S_isTired_11 : decode c_S_isTired 11 = .ok (.iaload, 1) := by decide +kernel
theorem d_S_isTired_12 : decode c_S_isTired 12 = .ok (.if_icmp .ge 7, 3) := by decide +kernel
theorem d_S_isTired_15 : decode c_S_isTired 15 = .ok (.iconst 1, 1) := by decide +kernel
theorem d_S_isTired_16 : decode c_S_isTired 16 = .ok (.goto 4, 3) := by decide +kernel
theorem d_S_isTired_19 : decode c_S_isTired 19 = .ok (.iconst 0, 1) := by decide +kernel
theorem d_S_isTired_20 : decode c_S_isTired 20 = .ok (.ireturn, 1) := by decide +kernel
theorem d_S_isResting_0 : decode c_S_isResting 0 = .ok (.iload_n 1, 1) := by decide +kernel
theorem d_S_isResting_1 : decode c_S_isResting 1 = .ok (.iconst (-1), 1) := by decide +kernel
theorem d_S_isResting_2 : decode c_S_isResting 2 = .ok (.if_icmp .eq 24, 3) := by decide +kernel
theorem d_S_isResting_5 : decode c_S_isResting 5 = .ok (.aload_n 0, 1) := by decide +kernel
theorem d_S_isResting_6 : decode c_S_isResting 6 = .ok (.getfield 44, 3) := by decide +kernel
theorem d_S_isResting_9 : decode c_S_isResting 9 = .ok (.iload_n 1, 1) := by decide +kernel
theorem d_S_isResting_10 : decode c_S_isResting 10 = .ok (.iaload, 1) := by decide +kernel
theorem d_S_isResting_11 : decode c_S_isResting 11 = .ok (.ifCond .gt 11, 3) := by decide +kernel
theorem d_S_isResting_14 : decode c_S_isResting 14 = .ok (.aload_n 0, 1) := by decide +kernel
theorem d_S_isResting_15 : decode c_S_isResting 15 = .ok (.iload_n 1, 1) := by decide +kernel
theorem d_S_isResting_16 : decode c_S_isResting 16 = .ok (.invokevirtual 85, 3) := by decide +kernel
theorem d_S_isResting_19 : decode c_S_isResting 19 = .ok (.ifCond .eq 7, 3) := by decide +kernel
theorem d_S_isResting_22 : decode c_S_isResting 22 = .ok (.iconst 1, 1) := by decide +kernel
theorem d_S_isResting_23 : decode c_S_isResting 23 = .ok (.goto 4, 3) := by decide +kernel
theorem d_S_isResting_26 : decode c_S_isResting 26 = .ok (.iconst 0, 1) := by decide +kernel
theorem d_S_isResting_27 : decode c_S_isResting 27 = .ok (.ireturn, 1) := by decide +kernel
theorem d_S_pass_0 : decode c_S_pass 0 = .ok (.aload_n 0, 1) := by decide +kernel
theorem d_S_pass_1 : decode c_S_pass 1 = .ok (.bipush 7, 2) := by decide +kernel
theorem d_S_pass_3 : decode c_S_pass 3 = .ok (.invokevirtual 89, 3) := by decide +kernel
theorem d_S_pass_6 : decode c_S_pass 6 = .ok (.istore_n 1, 1) := by decide +kernel
theorem d_S_pass_7 : decode c_S_pass 7 = .ok (.iconst 0, 1) := by decide +kernel
theorem d_S_pass_8 : decode c_S_pass 8 = .ok (.istore_n 2, 1) := by decide +kernel
theorem d_S_pass_9 : decode c_S_pass 9 = .ok (.iload_n 2, 1) := by decide +kernel
theorem d_S_pass_10 : decode c_S_pass 10 = .ok (.aload_n 0, 1) := by decide +kernel
theorem d_S_pass_11 : decode c_S_pass 11 = .ok (.getfield 69, 3) := by decide +kernel
theorem d_S_pass_14 : decode c_S_pass 14 = .ok (.if_icmp .ge 44, 3) := by decide +kernel
theorem d_S_pass_17 : decode c_S_pass 17 = .ok (.aload_n 0, 1) := by decide +kernel
theorem d_S_pass_18 : decode c_S_pass 18 = .ok (.getfield 40, 3) := by decide +kernel
theorem d_S_pass_21 : decode c_S_pass 21 = .ok (.iload_n 2, 1) := by decide +kernel
theorem d_S_pass_22 : decode c_S_pass 22 = .ok (.baload, 1) := by decide +kernel
theorem d_S_pass_23 : decode c_S_pass 23 = .ok (.ifCond .ne 29, 3) := by decide +kernel
theorem d_S_pass_26 : decode c_S_pass 26 = .ok (.aload_n 0, 1) := by decide +kernel
theorem d_S_pass_27 : decode c_S_pass 27 = .ok (.iload_n 2, 1) := by decide +kernel
theorem d_S_pass_28 : decode c_S_pass 28 = .ok (.invokevirtual 92, 3) := by decide +kernel
theorem d_S_pass_31 : decode c_S_pass 31 = .ok (.ifCond .ne 21, 3) := by decide +kernel
theorem d_S_pass_34 : decode c_S_pass 34 = .ok (.aload_n 0, 1) := by decide +kernel
theorem d_S_pass_35 : decode c_S_pass 35 = .ok (.aload_n 0, 1) := by decide +kernel
theorem d_S_pass_36 : decode c_S_pass 36 = .ok (.getfield 37, 3) := by decide +kernel
theorem d_S_pass_39 : decode c_S_pass 39 = .ok (.iload_n 2, 1) := by decide +kernel
theorem d_S_pass_40 : decode c_S_pass 40 = .ok (.iaload, 1) := by decide +kernel
theorem d_S_pass_41 : decode c_S_pass 41 = .ok (.invokevirtual 92, 3) := by decide +kernel
theorem d_S_pass_44 : decode c_S_pass 44 = .ok (.ifCond .ne 8, 3) := by decide +kernel
theorem d_S_pass_47 : decode c_S_pass 47 = .ok (.aload_n 0, 1) := by decide +kernel
theorem d_S_pass_48 : decode c_S_pass 48 = .ok (.iload_n 2, 1) := by decide +kernel
theorem d_S_pass_49 : decode c_S_pass 49 = .ok (.invokevirtual 95, 3) := by decide +kernel
theorem d_S_pass_52 : decode c_S_pass 52 = .ok (.iinc 2 1, 3) := by decide +kernel
theorem d_S_pass_55 : decode c_S_pass 55 = .ok (.goto (-46), 3) := by decide +kernel
theorem d_S_pass_58 : decode c_S_pass 58 = .ok (.iconst 0, 1) := by decide +kernel
theorem d_S_pass_59 : decode c_S_pass 59 = .ok (.istore_n 2, 1) := by decide +kernel
theorem d_S_pass_60 : decode c_S_pass 60 = .ok (.iload_n 2, 1) := by decide +kernel
theorem d_S_pass_61 : decode c_S_pass 61 = .ok (.aload_n 0, 1) := by decide +kernel
theorem d_S_pass_62 : decode c_S_pass 62 = .ok (.getfield 72, 3) := by decide +kernel
theorem d_S_pass_65 : decode c_S_pass 65 = .ok (.if_icmp .ge 28, 3) := by decide +kernel
theorem d_S_pass_68 : decode c_S_pass 68 = .ok (.aload_n 0, 1) := by decide +kernel
theorem d_S_pass_69 : decode c_S_pass 69 = .ok (.getfield 53, 3) := by decide +kernel
theorem d_S_pass_72 : decode c_S_pass 72 = .ok (.bipush 6, 2) := by decide +kernel
theorem d_S_pass_74 : decode c_S_pass 74 = .ok (.iload_n 2, 1) := by decide +kernel
theorem d_S_pass_75 : decode c_S_pass 75 = .ok (.imul, 1) := by decide +kernel
theorem d_S_pass_76 : decode c_S_pass 76 = .ok (.iconst 3, 1) := by decide +kernel
theorem d_S_pass_77 : decode c_S_pass 77 = .ok (.iadd, 1) := by decide +kernel
theorem d_S_pass_78 : decode c_S_pass 78 = .ok (.iaload, 1) := by decide +kernel
theorem d_S_pass_79 : decode c_S_pass 79 = .ok (.ifCond .le 8, 3) := by decide +kernel
theorem d_S_pass_82 : decode c_S_pass 82 = .ok (.aload_n 0, 1) := by decide +kernel
theorem d_S_pass_83 : decode c_S_pass 83 = .ok (.iload_n 2, 1) := by decide +kernel
theorem d_S_pass_84 : decode c_S_pass 84 = .ok (.invokevirtual 99, 3) := by decide +kernel
theorem d_S_pass_87 : decode c_S_pass 87 = .ok (.iinc 2 1, 3) := by decide +kernel
theorem d_S_pass_90 : decode c_S_pass 90 = .ok (.goto (-30), 3) := by decide +kernel
theorem d_S_pass_93 : decode c_S_pass 93 = .ok (.iconst 0, 1) := by decide +kernel
theorem d_S_pass_94 : decode c_S_pass 94 = .ok (.istore_n 2, 1) := by decide +kernel
theorem d_S_pass_95 : decode c_S_pass 95 = .ok (.iload_n 2, 1) := by decide +kernel
theorem d_S_pass_96 : decode c_S_pass 96 = .ok (.aload_n 0, 1) := by decide +kernel
theorem d_S_pass_97 : decode c_S_pass 97 = .ok (.getfield 69, 3) := by decide +kernel
theorem d_S_pass_100 : decode c_S_pass 100 = .ok (.if_icmp .ge 27, 3) := by decide +kernel
theorem d_S_pass_103 : decode c_S_pass 103 = .ok (.aload_n 0, 1) := by decide +kernel
theorem d_S_pass_104 : decode c_S_pass 104 = .ok (.getfield 44, 3) := by decide +kernel
theorem d_S_pass_107 : decode c_S_pass 107 = .ok (.iload_n 2, 1) := by decide +kernel
theorem d_S_pass_108 : decode c_S_pass 108 = .ok (.iconst 0, 1) := by decide +kernel
theorem d_S_pass_109 : decode c_S_pass 109 = .ok (.aload_n 0, 1) := by decide +kernel
theorem d_S_pass_110 : decode c_S_pass 110 = .ok (.getfield 44, 3) := by decide +kernel
theorem d_S_pass_113 : decode c_S_pass 113 = .ok (.iload_n 2, 1) := by decide +kernel
theorem d_S_pass_114 : decode c_S_pass 114 = .ok (.iaload, 1) := by decide +kernel
theorem d_S_pass_115 : decode c_S_pass 115 = .ok (.iconst 1, 1) := by decide +kernel
theorem d_S_pass_116 : decode c_S_pass 116 = .ok (.isub, 1) := by decide +kernel
theorem d_S_pass_117 : decode c_S_pass 117 = .ok (.invokestatic 102, 3) := by decide +kernel
theorem d_S_pass_120 : decode c_S_pass 120 = .ok (.iastore, 1) := by decide +kernel
theorem d_S_pass_121 : decode c_S_pass 121 = .ok (.iinc 2 1, 3) := by decide +kernel
theorem d_S_pass_124 : decode c_S_pass 124 = .ok (.goto (-29), 3) := by decide +kernel
theorem d_S_pass_127 : decode c_S_pass 127 = .ok (.aload_n 0, 1) := by decide +kernel
theorem d_S_pass_128 : decode c_S_pass 128 = .ok (.dup, 1) := by decide +kernel
theorem d_S_pass_129 : decode c_S_pass 129 = .ok (.getfield 65, 3) := by decide +kernel
theorem d_S_pass_132 : decode c_S_pass 132 = .ok (.iconst 1, 1) := by decide +kernel
theorem d_S_pass_133 : decode c_S_pass 133 = .ok (.iadd, 1) := by decide +kernel
theorem d_S_pass_134 : decode c_S_pass 134 = .ok (.putfield 65, 3) := by decide +kernel
theorem d_S_pass_137 : decode c_S_pass 137 = .ok (.aload_n 0, 1) := by decide +kernel
theorem d_S_pass_138 : decode c_S_pass 138 = .ok (.bipush 7, 2) := by decide +kernel
theorem d_S_pass_140 : decode c_S_pass 140 = .ok (.invokevirtual 89, 3) := by decide +kernel
theorem d_S_pass_143 : decode c_S_pass 143 = .ok (.iload_n 1, 1) := by decide +kernel
theorem d_S_pass_144 : decode c_S_pass 144 = .ok (.isub, 1) := by decide +kernel
theorem d_S_pass_145 : decode c_S_pass 145 = .ok (.ireturn, 1) := by decide +kernel
theorem d_S_act_0 : decode c_S_act 0 = .ok (.aload_n 0, 1) := by decide +kernel
theorem d_S_act_1 : decode c_S_act 1 = .ok (.getfield 37, 3) := by decide +kernel
theorem d_S_act_4 : decode c_S_act 4 = .ok (.iload_n 1, 1) := by decide +kernel
theorem d_S_act_5 : decode c_S_act 5 = .ok (.iaload, 1) := by decide +kernel
theorem d_S_act_6 : decode c_S_act 6 = .ok (.istore_n 2, 1) := by decide +kernel
theorem d_S_act_7 : decode c_S_act 7 = .ok (.aload_n 0, 1) := by decide +kernel
theorem d_S_act_8 : decode c_S_act 8 = .ok (.getfield 3, 3) := by decide +kernel
theorem d_S_act_11 : decode c_S_act 11 = .ok (.getfield 106, 3) := by decide +kernel
theorem d_S_act_14 : decode c_S_act 14 = .ok (.bipush 24, 2) := by decide +kernel
theorem d_S_act_16 : decode c_S_act 16 = .ok (.aload_n 0, 1) := by decide +kernel
theorem d_S_act_17 : decode c_S_act 17 = .ok (.getfield 31, 3) := by decide +kernel
theorem d_S_act_20 : decode c_S_act 20 = .ok (.iload_n 1, 1) := by decide +kernel
theorem d_S_act_21 : decode c_S_act 21 = .ok (.iaload, 1) := by decide +kernel
theorem d_S_act_22 : decode c_S_act 22 = .ok (.imul, 1) := by decide +kernel
theorem d_S_act_23 : decode c_S_act 23 = .ok (.aload_n 0, 1) := by decide +kernel
theorem d_S_act_24 : decode c_S_act 24 = .ok (.getfield 34, 3) := by decide +kernel
theorem d_S_act_27 : decode c_S_act 27 = .ok (.iload_n 1, 1) := by decide +kernel
theorem d_S_act_28 : decode c_S_act 28 = .ok (.iaload, 1) := by decide +kernel
theorem d_S_act_29 : decode c_S_act 29 = .ok (.iadd, 1) := by decide +kernel
theorem d_S_act_30 : decode c_S_act 30 = .ok (.iaload, 1) := by decide +kernel
theorem d_S_act_31 : decode c_S_act 31 = .ok (.istore_n 3, 1) := by decide +kernel
theorem d_S_act_32 : decode c_S_act 32 = .ok (.aload_n 0, 1) := by decide +kernel
theorem d_S_act_33 : decode c_S_act 33 = .ok (.getfield 34, 3) := by decide +kernel
theorem d_S_act_36 : decode c_S_act 36 = .ok (.iload_n 1, 1) := by decide +kernel
theorem d_S_act_37 : decode c_S_act 37 = .ok (.aload_n 0, 1) := by decide +kernel
theorem d_S_act_38 : decode c_S_act 38 = .ok (.getfield 34, 3) := by decide +kernel
theorem d_S_act_41 : decode c_S_act 41 = .ok (.iload_n 1, 1) := by decide +kernel
theorem d_S_act_42 : decode c_S_act 42 = .ok (.iaload, 1) := by decide +kernel
theorem d_S_act_43 : decode c_S_act 43 = .ok (.iconst 1, 1) := by decide +kernel
theorem d_S_act_44 : decode c_S_act 44 = .ok (.iadd, 1) := by decide +kernel
theorem d_S_act_45 : decode c_S_act 45 = .ok (.aload_n 0, 1) := by decide +kernel
theorem d_S_act_46 : decode c_S_act 46 = .ok (.getfield 3, 3) := by decide +kernel
theorem d_S_act_49 : decode c_S_act 49 = .ok (.getfield 109, 3) := by decide +kernel
theorem d_S_act_52 : decode c_S_act 52 = .ok (.aload_n 0, 1) := by decide +kernel
theorem d_S_act_53 : decode c_S_act 53 = .ok (.getfield 31, 3) := by decide +kernel
theorem d_S_act_56 : decode c_S_act 56 = .ok (.iload_n 1, 1) := by decide +kernel
theorem d_S_act_57 : decode c_S_act 57 = .ok (.iaload, 1) := by decide +kernel
theorem d_S_act_58 : decode c_S_act 58 = .ok (.iaload, 1) := by decide +kernel
theorem d_S_act_59 : decode c_S_act 59 = .ok (.irem, 1) := by decide +kernel
theorem d_S_act_60 : decode c_S_act 60 = .ok (.iastore, 1) := by decide +kernel
theorem d_S_act_61 : decode c_S_act 61 = .ok (.aload_n 0, 1) := by decide +kernel
theorem d_S_act_62 : decode c_S_act 62 = .ok (.getfield 15, 3) := by decide +kernel
theorem d_S_act_65 : decode c_S_act 65 = .ok (.iload_n 1, 1) := by decide +kernel
theorem d_S_act_66 : decode c_S_act 66 = .ok (.iaload, 1) := by decide +kernel
theorem d_S_act_67 : decode c_S_act 67 = .ok (.istore 4, 2) := by decide +kernel
theorem d_S_act_69 : decode c_S_act 69 = .ok (.aload_n 0, 1) := by decide +kernel
theorem d_S_act_70 : decode c_S_act 70 = .ok (.getfield 19, 3) := by decide +kernel
theorem d_S_act_73 : decode c_S_act 73 = .ok (.iload_n 1, 1) := by decide +kernel
theorem d_S_act_74 : decode c_S_act 74 = .ok (.iaload, 1) := by decide +kernel
theorem d_S_act_75 : decode c_S_act 75 = .ok (.istore 5, 2) := by decide +kernel
theorem d_S_act_77 : decode c_S_act 77 = .ok (.iload_n 2, 1) := by decide +kernel
theorem d_S_act_78 : decode c_S_act 78 = .ok (.iconst (-1), 1) := by decide +kernel
theorem d_S_act_79 : decode c_S_act 79 = .ok (.if_icmp .ne 7, 3) := by decide +kernel
theorem d_S_act_82 : decode c_S_act 82 = .ok (.iconst 0, 1) := by decide +kernel
theorem d_S_act_83 : decode c_S_act 83 = .ok (.goto 9, 3) := by decide +kernel
theorem d_S_act_86 : decode c_S_act 86 = .ok (.aload_n 0, 1) := by decide +kernel
theorem d_S_act_87 : decode c_S_act 87 = .ok (.getfield 15, 3) := by decide +kernel
theorem d_S_act_90 : decode c_S_act 90 = .ok (.iload_n 2, 1) := by decide +kernel
theorem d_S_act_91 : decode c_S_act 91 = .ok (.iaload, 1) := by decide +kernel
theorem d_S_act_92 : decode c_S_act 92 = .ok (.istore 6, 2) := by decide +kernel
theorem d_S_act_94 : decode c_S_act 94 = .ok (.iload_n 2, 1) := by decide +kernel
theorem d_S_act_95 : decode c_S_act 95 = .ok (.iconst (-1), 1) := by decide +kernel
theorem d_S_act_96 : decode c_S_act 96 = .ok (.if_icmp .ne 7, 3) := by decide +kernel
theorem d_S_act_99 : decode c_S_act 99 = .ok (.iconst 0, 1) := by decide +kernel
theorem d_S_act_100 : decode c_S_act 100 = .ok (.goto 9, 3) := by decide +kernel
theorem d_S_act_103 : decode c_S_act 103 = .ok (.aload_n 0, 1) := by decide +kernel
theorem d_S_act_104 : decode c_S_act 104 = .ok (.getfield 19, 3) := by decide +kernel
theorem d_S_act_107 : decode c_S_act 107 = .ok (.iload_n 2, 1) := by decide +kernel
theorem d_S_act_108 : decode c_S_act 108 = .ok (.iaload, 1) := by decide +kernel
theorem d_S_act_109 : decode c_S_act 109 = .ok (.istore 7, 2) := by decide +kernel
theorem d_S_act_111 : decode c_S_act 111 = .ok (.iload_n 3, 1) := by decide +kernel
theorem d_S_act_112 : decode c_S_act 112 = .ok (.bipush 116, 2) := by decide +kernel
theorem d_S_act_114 : decode c_S_act 114 = .ok (.if_icmp .ne 7, 3) := by decide +kernel
theorem d_S_act_117 : decode c_S_act 117 = .ok (.iconst 1, 1) := by decide +kernel
theorem d_S_act_118 : decode c_S_act 118 = .ok (.goto 14, 3) := by decide +kernel
theorem d_S_act_121 : decode c_S_act 121 = .ok (.iload_n 3, 1) := by decide +kernel
theorem d_S_act_122 : decode c_S_act 122 = .ok (.bipush 117, 2) := by decide +kernel
theorem d_S_act_124 : decode c_S_act 124 = .ok (.if_icmp .ne 7, 3) := by decide +kernel
theorem d_S_act_127 : decode c_S_act 127 = .ok (.iconst 3, 1) := by decide +kernel
theorem d_S_act_128 : decode c_S_act 128 = .ok (.goto 4, 3) := by decide +kernel
theorem d_S_act_131 : decode c_S_act 131 = .ok (.iconst 0, 1) := by decide +kernel
theorem d_S_act_132 : decode c_S_act 132 = .ok (.istore 8, 2) := by decide +kernel
theorem d_S_act_134 : decode c_S_act 134 = .ok (.iload_n 3, 1) := by decide +kernel
theorem d_S_act_135 : decode c_S_act 135 = .ok (.bipush 102, 2) := by decide +kernel
theorem d_S_act_137 : decode c_S_act 137 = .ok (.if_icmp .ne 7, 3) := by decide +kernel
theorem d_S_act_140 : decode c_S_act 140 = .ok (.iconst 0, 1) := by decide +kernel
theorem d_S_act_141 : decode c_S_act 141 = .ok (.goto 34, 3) := by decide +kernel
theorem d_S_act_144 : decode c_S_act 144 = .ok (.iload_n 3, 1) := by decide +kernel
theorem d_S_act_145 : decode c_S_act 145 = .ok (.bipush 114, 2) := by decide +kernel
theorem d_S_act_147 : decode c_S_act 147 = .ok (.if_icmp .ne 7, 3) := by decide +kernel
theorem d_S_act_150 : decode c_S_act 150 = .ok (.iconst 1, 1) := by decide +kernel
theorem d_S_act_151 : decode c_S_act 151 = .ok (.goto 24, 3) := by decide +kernel
theorem d_S_act_154 : decode c_S_act 154 = .ok (.iload_n 3, 1) := by decide +kernel
theorem d_S_act_155 : decode c_S_act 155 = .ok (.bipush 98, 2) := by decide +kernel
theorem d_S_act_157 : decode c_S_act 157 = .ok (.if_icmp .ne 7, 3) := by decide +kernel
theorem d_S_act_160 : decode c_S_act 160 = .ok (.iconst 2, 1) := by decide +kernel
theorem d_S_act_161 : decode c_S_act 161 = .ok (.goto 14, 3) := by decide +kernel
theorem d_S_act_164 : decode c_S_act 164 = .ok (.iload_n 3, 1) := by decide +kernel
theorem d_S_act_165 : decode c_S_act 165 = .ok (.bipush 108, 2) := by decide +kernel
theorem d_S_act_167 : decode c_S_act 167 = .ok (.if_icmp .ne 7, 3) := by decide +kernel
theorem d_S_act_170 : decode c_S_act 170 = .ok (.iconst 3, 1) := by decide +kernel
theorem d_S_act_171 : decode c_S_act 171 = .ok (.goto 4, 3) := by decide +kernel
theorem d_S_act_174 : decode c_S_act 174 = .ok (.iconst (-1), 1) := by decide +kernel
theorem d_S_act_175 : decode c_S_act 175 = .ok (.istore 9, 2) := by decide +kernel
theorem d_S_act_177 : decode c_S_act 177 = .ok (.iload 9, 2) := by decide +kernel
theorem d_S_act_179 : decode c_S_act 179 = .ok (.iconst (-1), 1) := by decide +kernel
theorem d_S_act_180 : decode c_S_act 180 = .ok (.if_icmp .eq 63, 3) := by decide +kernel
theorem d_S_act_183 : decode c_S_act 183 = .ok (.aload_n 0, 1) := by decide +kernel
theorem d_S_act_184 : decode c_S_act 184 = .ok (.getfield 22, 3) := by decide +kernel
theorem d_S_act_187 : decode c_S_act 187 = .ok (.iload_n 1, 1) := by decide +kernel
theorem d_S_act_188 : decode c_S_act 188 = .ok (.iaload, 1) := by decide +kernel
theorem d_S_act_189 : decode c_S_act 189 = .ok (.iload 9, 2) := by decide +kernel
theorem d_S_act_191 : decode c_S_act 191 = .ok (.iadd, 1) := by decide +kernel
theorem d_S_act_192 : decode c_S_act 192 = .ok (.iconst 4, 1) := by decide +kernel
theorem d_S_act_193 : decode c_S_act 193 = .ok (.irem, 1) := by decide +kernel
theorem d_S_act_194 : decode c_S_act 194 = .ok (.istore 9, 2) := by decide +kernel
theorem d_S_act_196 : decode c_S_act 196 = .ok (.iload 4, 2) := by decide +kernel
theorem d_S_act_198 : decode c_S_act 198 = .ok (.getstatic 112, 3) := by decide +kernel
theorem d_S_act_201 : decode c_S_act 201 = .ok (.iload 9, 2) := by decide +kernel
theorem d_S_act_203 : decode c_S_act 203 = .ok (.iaload, 1) := by decide +kernel
theorem d_S_act_204 : decode c_S_act 204 = .ok (.iadd, 1) := by decide +kernel
theorem d_S_act_205 : decode c_S_act 205 = .ok (.istore 4, 2) := by decide +kernel
theorem d_S_act_207 : decode c_S_act 207 = .ok (.iload 5, 2) := by decide +kernel
theorem d_S_act_209 : decode c_S_act 209 = .ok (.getstatic 115, 3) := by decide +kernel
theorem d_S_act_212 : decode c_S_act 212 = .ok (.iload 9, 2) := by decide +kernel
theorem d_S_act_214 : decode c_S_act 214 = .ok (.iaload, 1) := by decide +kernel
theorem d_S_act_215 : decode c_S_act 215 = .ok (.iadd, 1) := by decide +kernel
theorem d_S_act_216 : decode c_S_act 216 = .ok (.istore 5, 2) := by decide +kernel
theorem d_S_act_218 : decode c_S_act 218 = .ok (.iload 6, 2) := by decide +kernel
theorem d_S_act_220 : decode c_S_act 220 = .ok (.getstatic 112, 3) := by decide +kernel
theorem d_S_act_223 : decode c_S_act 223 = .ok (.iload 9, 2) := by decide +kernel
theorem d_S_act_225 : decode c_S_act 225 = .ok (.iaload, 1) := by decide +kernel
theorem d_S_act_226 : decode c_S_act 226 = .ok (.iadd, 1) := by decide +kernel
theorem d_S_act_227 : decode c_S_act 227 = .ok (.istore 6, 2) := by decide +kernel
theorem d_S_act_229 : decode c_S_act 229 = .ok (.iload 7, 2) := by decide +kernel
theorem d_S_act_231 : decode c_S_act 231 = .ok (.getstatic 115, 3) := by decide +kernel
theorem d_S_act_234 : decode c_S_act 234 = .ok (.iload 9, 2) := by decide +kernel
theorem d_S_act_236 : decode c_S_act 236 = .ok (.iaload, 1) := by decide +kernel
theorem d_S_act_237 : decode c_S_act 237 = .ok (.iadd, 1) := by decide +kernel
theorem d_S_act_238 : decode c_S_act 238 = .ok (.istore 7, 2) := by decide +kernel
theorem d_S_act_240 : decode c_S_act 240 = .ok (.goto 152, 3) := by decide +kernel
theorem d_S_act_243 : decode c_S_act 243 = .ok (.iload 8, 2) := by decide +kernel
theorem d_S_act_245 : decode c_S_act 245 = .ok (.ifCond .le 104, 3) := by decide +kernel
theorem d_S_act_248 : decode c_S_act 248 = .ok (.iload_n 2, 1) := by decide +kernel
theorem d_S_act_249 : decode c_S_act 249 = .ok (.iconst (-1), 1) := by decide +kernel
theorem d_S_act_250 : decode c_S_act 250 = .ok (.if_icmp .eq 99, 3) := by decide +kernel
theorem d_S_act_253 : decode c_S_act 253 = .ok (.iconst 0, 1) := by decide +kernel
theorem d_S_act_254 : decode c_S_act 254 = .ok (.istore 10, 2) := by decide +kernel
theorem d_S_act_256 : decode c_S_act 256 = .ok (.aload_n 0, 1) := by decide +kernel
theorem d_S_act_257 : decode c_S_act 257 = .ok (.getfield 15, 3) := by decide +kernel
theorem d_S_act_260 : decode c_S_act 260 = .ok (.iload_n 1, 1) := by decide +kernel
theorem d_S_act_261 : decode c_S_act 261 = .ok (.iaload, 1) := by decide +kernel
theorem d_S_act_262 : decode c_S_act 262 = .ok (.getstatic 112, 3) := by decide +kernel
theorem d_S_act_265 : decode c_S_act 265 = .ok (.iload 10, 2) := by decide +kernel
theorem d_S_act_267 : decode c_S_act 267 = .ok (.iaload, 1) := by decide +kernel
theorem d_S_act_268 : decode c_S_act 268 = .ok (.iadd, 1) := by decide +kernel
theorem d_S_act_269 : decode c_S_act 269 = .ok (.aload_n 0, 1) := by decide +kernel
theorem d_S_act_270 : decode c_S_act 270 = .ok (.getfield 15, 3) := by decide +kernel
theorem d_S_act_273 : decode c_S_act 273 = .ok (.iload_n 2, 1) := by decide +kernel
theorem d_S_act_274 : decode c_S_act 274 = .ok (.iaload, 1) := by decide +kernel
theorem d_S_act_275 : decode c_S_act 275 = .ok (.if_icmp .ne 25, 3) := by decide +kernel
theorem d_S_act_278 : decode c_S_act 278 = .ok (.aload_n 0, 1) := by decide +kernel
theorem d_S_act_279 : decode c_S_act 279 = .ok (.getfield 19, 3) := by decide +kernel
theorem d_S_act_282 : decode c_S_act 282 = .ok (.iload_n 1, 1) := by decide +kernel
theorem d_S_act_283 : decode c_S_act 283 = .ok (.iaload, 1) := by decide +kernel
theorem d_S_act_284 : decode c_S_act 284 = .ok (.getstatic 115, 3) := by decide +kernel
theorem d_S_act_287 : decode c_S_act 287 = .ok (.iload 10, 2) := by decide +kernel
theorem d_S_act_289 : decode c_S_act 289 = .ok (.iaload, 1) := by decide +kernel
theorem d_S_act_290 : decode c_S_act 290 = .ok (.iadd, 1) := by decide +kernel
theorem d_S_act_291 : decode c_S_act 291 = .ok (.aload_n 0, 1) := by decide +kernel
theorem d_S_act_292 : decode c_S_act 292 = .ok (.getfield 19, 3) := by decide +kernel
theorem d_S_act_295 : decode c_S_act 295 = .ok (.iload_n 2, 1) := by decide +kernel
theorem d_S_act_296 : decode c_S_act 296 = .ok (.iaload, 1) := by decide +kernel
theorem d_S_act_297 : decode c_S_act 297 = .ok (.if_icmp .eq 9, 3) := by decide +kernel
theorem d_S_act_300 : decode c_S_act 300 = .ok (.iinc 10 1, 3) := by decide +kernel
theorem d_S_act_303 : decode c_S_act 303 = .ok (.goto (-47), 3) := by decide +kernel
theorem d_S_act_306 : decode c_S_act 306 = .ok (.aload_n 0, 1) := by decide +kernel
theorem d_S_act_307 : decode c_S_act 307 = .ok (.getfield 15, 3) := by decide +kernel
theorem d_S_act_310 : decode c_S_act 310 = .ok (.iload_n 1, 1) := by decide +kernel
theorem d_S_act_311 : decode c_S_act 311 = .ok (.iaload, 1) := by decide +kernel
theorem d_S_act_312 : decode c_S_act 312 = .ok (.getstatic 112, 3) := by decide +kernel
theorem d_S_act_315 : decode c_S_act 315 = .ok (.iload 10, 2) := by decide +kernel
theorem d_S_act_317 : decode c_S_act 317 = .ok (.iload 8, 2) := by decide +kernel
theorem d_S_act_319 : decode c_S_act 319 = .ok (.iadd, 1) := by decide +kernel
theorem d_S_act_320 : decode c_S_act 320 = .ok (.iconst 4, 1) := by decide +kernel
theorem d_S_act_321 : decode c_S_act 321 = .ok (.irem, 1) := by decide +kernel
theorem d_S_act_322 : decode c_S_act 322 = .ok (.iaload, 1) := by decide +kernel
theorem d_S_act_323 : decode c_S_act 323 = .ok (.iadd, 1) := by decide +kernel
theorem d_S_act_324 : decode c_S_act 324 = .ok (.istore 6, 2) := by decide +kernel
theorem d_S_act_326 : decode c_S_act 326 = .ok (.aload_n 0, 1) := by decide +kernel
theorem d_S_act_327 : decode c_S_act 327 = .ok (.getfield 19, 3) := by decide +kernel
theorem d_S_act_330 : decode c_S_act 330 = .ok (.iload_n 1, 1) := by decide +kernel
theorem d_S_act_331 : decode c_S_act 331 = .ok (.iaload, 1) := by decide +kernel
theorem d_S_act_332 : decode c_S_act 332 = .ok (.getstatic 115, 3) := by decide +kernel
theorem d_S_act_335 : decode c_S_act 335 = .ok (.iload 10, 2) := by decide +kernel
theorem d_S_act_337 : decode c_S_act 337 = .ok (.iload 8, 2) := by decide +kernel
theorem d_S_act_339 : decode c_S_act 339 = .ok (.iadd, 1) := by decide +kernel
theorem d_S_act_340 : decode c_S_act 340 = .ok (.iconst 4, 1) := by decide +kernel
theorem d_S_act_341 : decode c_S_act 341 = .ok (.irem, 1) := by decide +kernel
theorem d_S_act_342 : decode c_S_act 342 = .ok (.iaload, 1) := by decide +kernel
theorem d_S_act_343 : decode c_S_act 343 = .ok (.iadd, 1) := by decide +kernel
theorem d_S_act_344 : decode c_S_act 344 = .ok (.istore 7, 2) := by decide +kernel
theorem d_S_act_346 : decode c_S_act 346 = .ok (.goto 46, 3) := by decide +kernel
theorem d_S_act_349 : decode c_S_act 349 = .ok (.iload_n 3, 1) := by decide +kernel
theorem d_S_act_350 : decode c_S_act 350 = .ok (.bipush 115, 2) := by decide +kernel
theorem d_S_act_352 : decode c_S_act 352 = .ok (.if_icmp .ne 40, 3) := by decide +kernel
theorem d_S_act_355 : decode c_S_act 355 = .ok (.iload_n 2, 1) := by decide +kernel
theorem d_S_act_356 : decode c_S_act 356 = .ok (.iconst (-1), 1) := by decide +kernel
theorem d_S_act_357 : decode c_S_act 357 = .ok (.if_icmp .eq 35, 3) := by decide +kernel
theorem d_S_act_360 : decode c_S_act 360 = .ok (.aload_n 0, 1) := by decide +kernel
theorem d_S_act_361 : decode c_S_act 361 = .ok (.getfield 15, 3) := by decide +kernel
theorem d_S_act_364 : decode c_S_act 364 = .ok (.iload_n 2, 1) := by decide +kernel
theorem d_S_act_365 : decode c_S_act 365 = .ok (.iaload, 1) := by decide +kernel
theorem d_S_act_366 : decode c_S_act 366 = .ok (.istore 4, 2) := by decide +kernel
theorem d_S_act_368 : decode c_S_act 368 = .ok (.aload_n 0, 1) := by decide +kernel
theorem d_S_act_369 : decode c_S_act 369 = .ok (.getfield 19, 3) := by decide +kernel
theorem d_S_act_372 : decode c_S_act 372 = .ok (.iload_n 2, 1) := by decide +kernel
theorem d_S_act_373 : decode c_S_act 373 = .ok (.iaload, 1) := by decide +kernel
theorem d_S_act_374 : decode c_S_act 374 = .ok (.istore 5, 2) := by decide +kernel
theorem d_S_act_376 : decode c_S_act 376 = .ok (.aload_n 0, 1) := by decide +kernel
theorem d_S_act_377 : decode c_S_act 377 = .ok (.getfield 15, 3) := by decide +kernel
theorem d_S_act_380 : decode c_S_act 380 = .ok (.iload_n 1, 1) := by decide +kernel
theorem d_S_act_381 : decode c_S_act 381 = .ok (.iaload, 1) := by decide +kernel
theorem d_S_act_382 : decode c_S_act 382 = .ok (.istore 6, 2) := by decide +kernel
theorem d_S_act_384 : decode c_S_act 384 = .ok (.aload_n 0, 1) := by decide +kernel
theorem d_S_act_385 : decode c_S_act 385 = .ok (.getfield 19, 3) := by decide +kernel
theorem d_S_act_388 : decode c_S_act 388 = .ok (.iload_n 1, 1) := by decide +kernel
theorem d_S_act_389 : decode c_S_act 389 = .ok (.iaload, 1) := by decide +kernel
theorem d_S_act_390 : decode c_S_act 390 = .ok (.istore 7, 2) := by decide +kernel
theorem d_S_act_392 : decode c_S_act 392 = .ok (.aload_n 0, 1) := by decide +kernel
theorem d_S_act_393 : decode c_S_act 393 = .ok (.iload 4, 2) := by decide +kernel
theorem d_S_act_395 : decode c_S_act 395 = .ok (.iload 5, 2) := by decide +kernel
theorem d_S_act_397 : decode c_S_act 397 = .ok (.iload_n 1, 1) := by decide +kernel
theorem d_S_act_398 : decode c_S_act 398 = .ok (.iload_n 2, 1) := by decide +kernel
theorem d_S_act_399 : decode c_S_act 399 = .ok (.invokevirtual 118, 3) := by decide +kernel
theorem d_S_act_402 : decode c_S_act 402 = .ok (.iload_n 2, 1) := by decide +kernel
theorem d_S_act_403 : decode c_S_act 403 = .ok (.iconst (-1), 1) := by decide +kernel
theorem d_S_act_404 : decode c_S_act 404 = .ok (.if_icmp .eq 16, 3) := by decide +kernel
theorem d_S_act_407 : decode c_S_act 407 = .ok (.aload_n 0, 1) := by decide +kernel
theorem d_S_act_408 : decode c_S_act 408 = .ok (.iload 6, 2) := by decide +kernel
theorem d_S_act_410 : decode c_S_act 410 = .ok (.iload 7, 2) := by decide +kernel
theorem d_S_act_412 : decode c_S_act 412 = .ok (.iload_n 1, 1) := by decide +kernel
theorem d_S_act_413 : decode c_S_act 413 = .ok (.iload_n 2, 1) := by decide +kernel
theorem d_S_act_414 : decode c_S_act 414 = .ok (.invokevirtual 118, 3) := by decide +kernel
theorem d_S_act_417 : decode c_S_act 417 = .ok (.ifCond .eq 7, 3) := by decide +kernel
theorem d_S_act_420 : decode c_S_act 420 = .ok (.iconst 1, 1) := by decide +kernel
theorem d_S_act_421 : decode c_S_act 421 = .ok (.goto 4, 3) := by decide +kernel
theorem d_S_act_424 : decode c_S_act 424 = .ok (.iconst 0, 1) := by decide +kernel
theorem d_S_act_425 : decode c_S_act 425 = .ok (.iand, 1) := by decide +kernel
theorem d_S_act_426 : decode c_S_act 426 = .ok (.istore 10, 2) := by decide +kernel
theorem d_S_act_428 : decode c_S_act 428 = .ok (.iload 10, 2) := by decide +kernel
theorem d_S_act_430 : decode c_S_act 430 = .ok (.ifCond .ne 44, 3) := by decide +kernel
theorem d_S_act_433 : decode c_S_act 433 = .ok (.aload_n 0, 1) := by decide +kernel
theorem d_S_act_434 : decode c_S_act 434 = .ok (.iload 4, 2) := by decide +kernel
theorem d_S_act_436 : decode c_S_act 436 = .ok (.iload 5, 2) := by decide +kernel
theorem d_S_act_438 : decode c_S_act 438 = .ok (.iload_n 1, 1) := by decide +kernel
theorem d_S_act_439 : decode c_S_act 439 = .ok (.iload_n 2, 1) := by decide +kernel
theorem d_S_act_440 : decode c_S_act 440 = .ok (.invokevirtual 122, 3) := by decide +kernel
theorem d_S_act_443 : decode c_S_act 443 = .ok (.iload_n 2, 1) := by decide +kernel
theorem d_S_act_444 : decode c_S_act 444 = .ok (.iconst (-1), 1) := by decide +kernel
theorem d_S_act_445 : decode c_S_act 445 = .ok (.if_icmp .eq 13, 3) := by decide +kernel
theorem d_S_act_448 : decode c_S_act 448 = .ok (.aload_n 0, 1) := by decide +kernel
theorem d_S_act_449 : decode c_S_act 449 = .ok (.iload 6, 2) := by decide +kernel
theorem d_S_act_451 : decode c_S_act 451 = .ok (.iload 7, 2) := by decide +kernel
theorem d_S_act_453 : decode c_S_act 453 = .ok (.iload_n 1, 1) := by decide +kernel
theorem d_S_act_454 : decode c_S_act 454 = .ok (.iload_n 2, 1) := by decide +kernel
theorem d_S_act_455 : decode c_S_act 455 = .ok (.invokevirtual 122, 3) := by decide +kernel
theorem d_S_act_458 : decode c_S_act 458 = .ok (.aload_n 0, 1) := by decide +kernel
theorem d_S_act_459 : decode c_S_act 459 = .ok (.iload_n 1, 1) := by decide +kernel
theorem d_S_act_460 : decode c_S_act 460 = .ok (.invokevirtual 126, 3) := by decide +kernel
theorem d_S_act_463 : decode c_S_act 463 = .ok (.iload_n 2, 1) := by decide +kernel
theorem d_S_act_464 : decode c_S_act 464 = .ok (.iconst (-1), 1) := by decide +kernel
theorem d_S_act_465 : decode c_S_act 465 = .ok (.if_icmp .eq 8, 3) := by decide +kernel
theorem d_S_act_468 : decode c_S_act 468 = .ok (.aload_n 0, 1) := by decide +kernel
theorem d_S_act_469 : decode c_S_act 469 = .ok (.iload_n 2, 1) := by decide +kernel
theorem d_S_act_470 : decode c_S_act 470 = .ok (.invokevirtual 126, 3) := by decide +kernel
theorem d_S_act_473 : decode c_S_act 473 = .ok (.return_, 1) := by decide +kernel
theorem d_S_act_474 : decode c_S_act 474 = .ok (.aload_n 0, 1) := by decide +kernel
theorem d_S_act_475 : decode c_S_act 475 = .ok (.iload_n 1, 1) := by decide +kernel
theorem d_S_act_476 : decode c_S_act 476 = .ok (.iload 4, 2) := by decide +kernel
theorem d_S_act_478 : decode c_S_act 478 = .ok (.iload 5, 2) := by decide +kernel
theorem d_S_act_480 : decode c_S_act 480 = .ok (.iload 8, 2) := by decide +kernel
theorem d_S_act_482 : decode c_S_act 482 = .ok (.invokevirtual 129, 3) := by decide +kernel
theorem d_S_act_485 : decode c_S_act 485 = .ok (.iload_n 2, 1) := by decide +kernel
theorem d_S_act_486 : decode c_S_act 486 = .ok (.iconst (-1), 1) := by decide +kernel
theorem d_S_act_487 : decode c_S_act 487 = .ok (.if_icmp .eq 14, 3) := by decide +kernel
theorem d_S_act_490 : decode c_S_act 490 = .ok (.aload_n 0, 1) := by decide +kernel
theorem d_S_act_491 : decode c_S_act 491 = .ok (.iload_n 2, 1) := by decide +kernel
theorem d_S_act_492 : decode c_S_act 492 = .ok (.iload 6, 2) := by decide +kernel
theorem d_S_act_494 : decode c_S_act 494 = .ok (.iload 7, 2) := by decide +kernel
theorem d_S_act_496 : decode c_S_act 496 = .ok (.iload 8, 2) := by decide +kernel
theorem d_S_act_498 : decode c_S_act 498 = .ok (.invokevirtual 129, 3) := by decide +kernel
theorem d_S_act_501 : decode c_S_act 501 = .ok (.return_, 1) := by decide +kernel
theorem d_S_isFree_0 : decode c_S_isFree 0 = .ok (.aload_n 0, 1) := by decide +kernel
theorem d_S_isFree_1 : decode c_S_isFree 1 = .ok (.iload_n 1, 1) := by decide +kernel
theorem d_S_isFree_2 : decode c_S_isFree 2 = .ok (.iload_n 2, 1) := by decide +kernel
theorem d_S_isFree_3 : decode c_S_isFree 3 = .ok (.invokevirtual 132, 3) := by decide +kernel
theorem d_S_isFree_6 : decode c_S_isFree 6 = .ok (.istore 5, 2) := by decide +kernel
theorem d_S_isFree_8 : decode c_S_isFree 8 = .ok (.iload_n 1, 1) := by decide +kernel
theorem d_S_isFree_9 : decode c_S_isFree 9 = .ok (.iconst 0, 1) := by decide +kernel
theorem d_S_isFree_10 : decode c_S_isFree 10 = .ok (.bipush 15, 2) := by decide +kernel
theorem d_S_isFree_12 : decode c_S_isFree 12 = .ok (.invokestatic 135, 3) := by decide +kernel
theorem d_S_isFree_15 : decode c_S_isFree 15 = .ok (.ifCond .eq 36, 3) := by decide +kernel
theorem d_S_isFree_18 : decode c_S_isFree 18 = .ok (.iload_n 2, 1) := by decide +kernel
theorem d_S_isFree_19 : decode c_S_isFree 19 = .ok (.iconst 0, 1) := by decide +kernel
theorem d_S_isFree_20 : decode c_S_isFree 20 = .ok (.bipush 15, 2) := by decide +kernel
theorem d_S_isFree_22 : decode c_S_isFree 22 = .ok (.invokestatic 135, 3) := by decide +kernel
theorem d_S_isFree_25 : decode c_S_isFree 25 = .ok (.ifCond .eq 26, 3) := by decide +kernel
theorem d_S_isFree_28 : decode c_S_isFree 28 = .ok (.iload 5, 2) := by decide +kernel
theorem d_S_isFree_30 : decode c_S_isFree 30 = .ok (.iconst (-1), 1) := by decide +kernel
theorem d_S_isFree_31 : decode c_S_isFree 31 = .ok (.if_icmp .eq 16, 3) := by decide +kernel
theorem d_S_isFree_34 : decode c_S_isFree 34 = .ok (.iload 5, 2) := by decide +kernel
theorem d_S_isFree_36 : decode c_S_isFree 36 = .ok (.iload_n 3, 1) := by decide +kernel
theorem d_S_isFree_37 : decode c_S_isFree 37 = .ok (.if_icmp .eq 10, 3) := by decide +kernel
theorem d_S_isFree_40 : decode c_S_isFree 40 = .ok (.iload 5, 2) := by decide +kernel
theorem d_S_isFree_42 : decode c_S_isFree 42 = .ok (.iload 4, 2) := by decide +kernel
theorem d_S_isFree_44 : decode c_S_isFree 44 = .ok (.if_icmp .ne 7, 3) := by decide +kernel
theorem d_S_isFree_47 : decode c_S_isFree 47 = .ok (.iconst 1, 1) := by decide +kernel
theorem d_S_isFree_48 : decode c_S_isFree 48 = .ok (.goto 4, 3) := by decide +kernel
theorem d_S_isFree_51 : decode c_S_isFree 51 = .ok (.iconst 0, 1) := by decide +kernel
theorem d_S_isFree_52 : decode c_S_isFree 52 = .ok (.ireturn, 1) := by decide +kernel
theorem d_S_bump_0 : decode c_S_bump 0 = .ok (.aload_n 0, 1) := by decide +kernel
theorem d_S_bump_1 : decode c_S_bump 1 = .ok (.iload_n 1, 1) := by decide +kernel
theorem d_S_bump_2 : decode c_S_bump 2 = .ok (.iload_n 2, 1) := by decide +kernel
theorem d_S_bump_3 : decode c_S_bump 3 = .ok (.invokevirtual 132, 3) := by decide +kernel
theorem d_S_bump_6 : decode c_S_bump 6 = .ok (.istore 5, 2) := by decide +kernel
theorem d_S_bump_8 : decode c_S_bump 8 = .ok (.iload 5, 2) := by decide +kernel
theorem d_S_bump_10 : decode c_S_bump 10 = .ok (.iconst (-1), 1) := by decide +kernel
theorem d_S_bump_11 : decode c_S_bump 11 = .ok (.if_icmp .eq 22, 3) := by decide +kernel
theorem d_S_bump_14 : decode c_S_bump 14 = .ok (.iload 5, 2) := by decide +kernel
theorem d_S_bump_16 : decode c_S_bump 16 = .ok (.iload_n 3, 1) := by decide +kernel
theorem d_S_bump_17 : decode c_S_bump 17 = .ok (.if_icmp .eq 16, 3) := by decide +kernel
theorem d_S_bump_20 : decode c_S_bump 20 = .ok (.iload 5, 2) := by decide +kernel
theorem d_S_bump_22 : decode c_S_bump 22 = .ok (.iload 4, 2) := by decide +kernel
theorem d_S_bump_24 : decode c_S_bump 24 = .ok (.if_icmp .eq 9, 3) := by decide +kernel
theorem d_S_bump_27 : decode c_S_bump 27 = .ok (.aload_n 0, 1) := by decide +kernel
theorem d_S_bump_28 : decode c_S_bump 28 = .ok (.iload 5, 2) := by decide +kernel
theorem d_S_bump_30 : decode c_S_bump 30 = .ok (.invokevirtual 126, 3) := by decide +kernel
theorem d_S_bump_33 : decode c_S_bump 33 = .ok (.return_, 1) := by decide +kernel
theorem d_S_hit_0 : decode c_S_hit 0 = .ok (.aload_n 0, 1) := by decide +kernel
theorem d_S_hit_1 : decode c_S_hit 1 = .ok (.getfield 44, 3) := by decide +kernel
theorem d_S_hit_4 : decode c_S_hit 4 = .ok (.iload_n 1, 1) := by decide +kernel
theorem d_S_hit_5 : decode c_S_hit 5 = .ok (.iconst 3, 1) := by decide +kernel
theorem d_S_hit_6 : decode c_S_hit 6 = .ok (.iastore, 1) := by decide +kernel
theorem d_S_hit_7 : decode c_S_hit 7 = .ok (.aload_n 0, 1) := by decide +kernel
theorem d_S_hit_8 : decode c_S_hit 8 = .ok (.getfield 50, 3) := by decide +kernel
theorem d_S_hit_11 : decode c_S_hit 11 = .ok (.iload_n 1, 1) := by decide +kernel
theorem d_S_hit_12 : decode c_S_hit 12 = .ok (.dup2, 1) := by decide +kernel
theorem d_S_hit_13 : decode c_S_hit 13 = .ok (.iaload, 1) := by decide +kernel
theorem d_S_hit_14 : decode c_S_hit 14 = .ok (.iconst 1, 1) := by decide +kernel
theorem d_S_hit_15 : decode c_S_hit 15 = .ok (.iadd, 1) := by decide +kernel
theorem d_S_hit_16 : decode c_S_hit 16 = .ok (.iastore, 1) := by decide +kernel
theorem d_S_hit_17 : decode c_S_hit 17 = .ok (.return_, 1) := by decide +kernel
theorem d_S_finish_0 : decode c_S_finish 0 = .ok (.aload_n 0, 1) := by decide +kernel
theorem d_S_finish_1 : decode c_S_finish 1 = .ok (.getfield 15, 3) := by decide +kernel
theorem d_S_finish_4 : decode c_S_finish 4 = .ok (.iload_n 1, 1) := by decide +kernel
theorem d_S_finish_5 : decode c_S_finish 5 = .ok (.iload_n 2, 1) := by decide +kernel
theorem d_S_finish_6 : decode c_S_finish 6 = .ok (.iastore, 1) := by decide +kernel
theorem d_S_finish_7 : decode c_S_finish 7 = .ok (.aload_n 0, 1) := by decide +kernel
theorem d_S_finish_8 : decode c_S_finish 8 = .ok (.getfield 19, 3) := by decide +kernel
theorem d_S_finish_11 : decode c_S_finish 11 = .ok (.iload_n 1, 1) := by decide +kernel
theorem d_S_finish_12 : decode c_S_finish 12 = .ok (.iload_n 3, 1) := by decide +kernel
theorem d_S_finish_13 : decode c_S_finish 13 = .ok (.iastore, 1) := by decide +kernel
theorem d_S_finish_14 : decode c_S_finish 14 = .ok (.aload_n 0, 1) := by decide +kernel
theorem d_S_finish_15 : decode c_S_finish 15 = .ok (.getfield 22, 3) := by decide +kernel
theorem d_S_finish_18 : decode c_S_finish 18 = .ok (.iload_n 1, 1) := by decide +kernel
theorem d_S_finish_19 : decode c_S_finish 19 = .ok (.aload_n 0, 1) := by decide +kernel
theorem d_S_finish_20 : decode c_S_finish 20 = .ok (.getfield 22, 3) := by decide +kernel
theorem d_S_finish_23 : decode c_S_finish 23 = .ok (.iload_n 1, 1) := by decide +kernel
theorem d_S_finish_24 : decode c_S_finish 24 = .ok (.iaload, 1) := by decide +kernel
theorem d_S_finish_25 : decode c_S_finish 25 = .ok (.iload 4, 2) := by decide +kernel
theorem d_S_finish_27 : decode c_S_finish 27 = .ok (.iadd, 1) := by decide +kernel
theorem d_S_finish_28 : decode c_S_finish 28 = .ok (.iconst 4, 1) := by decide +kernel
theorem d_S_finish_29 : decode c_S_finish 29 = .ok (.irem, 1) := by decide +kernel
theorem d_S_finish_30 : decode c_S_finish 30 = .ok (.iastore, 1) := by decide +kernel
theorem d_S_finish_31 : decode c_S_finish 31 = .ok (.aload_n 0, 1) := by decide +kernel
theorem d_S_finish_32 : decode c_S_finish 32 = .ok (.getfield 25, 3) := by decide +kernel
theorem d_S_finish_35 : decode c_S_finish 35 = .ok (.iload_n 1, 1) := by decide +kernel
theorem d_S_finish_36 : decode c_S_finish 36 = .ok (.dup2, 1) := by decide +kernel
theorem d_S_finish_37 : decode c_S_finish 37 = .ok (.iaload, 1) := by decide +kernel
theorem d_S_finish_38 : decode c_S_finish 38 = .ok (.aload_n 0, 1) := by decide +kernel
theorem d_S_finish_39 : decode c_S_finish 39 = .ok (.getfield 28, 3) := by decide +kernel
theorem d_S_finish_42 : decode c_S_finish 42 = .ok (.iload_n 1, 1) := by decide +kernel
theorem d_S_finish_43 : decode c_S_finish 43 = .ok (.iaload, 1) := by decide +kernel
theorem d_S_finish_44 : decode c_S_finish 44 = .ok (.isub, 1) := by decide +kernel
theorem d_S_finish_45 : decode c_S_finish 45 = .ok (.iastore, 1) := by decide +kernel
theorem d_S_finish_46 : decode c_S_finish 46 = .ok (.aload_n 0, 1) := by decide +kernel
theorem d_S_finish_47 : decode c_S_finish 47 = .ok (.getfield 47, 3) := by decide +kernel
theorem d_S_finish_50 : decode c_S_finish 50 = .ok (.iload_n 1, 1) := by decide +kernel
theorem d_S_finish_51 : decode c_S_finish 51 = .ok (.dup2, 1) := by decide +kernel
theorem d_S_finish_52 : decode c_S_finish 52 = .ok (.iaload, 1) := by decide +kernel
theorem d_S_finish_53 : decode c_S_finish 53 = .ok (.iconst 1, 1) := by decide +kernel
theorem d_S_finish_54 : decode c_S_finish 54 = .ok (.iadd, 1) := by decide +kernel
theorem d_S_finish_55 : decode c_S_finish 55 = .ok (.iastore, 1) := by decide +kernel
theorem d_S_finish_56 : decode c_S_finish 56 = .ok (.return_, 1) := by decide +kernel
theorem d_S_go_0 : decode c_S_go 0 = .ok (.bipush 6, 2) := by decide +kernel
theorem d_S_go_2 : decode c_S_go 2 = .ok (.iload_n 1, 1) := by decide +kernel
theorem d_S_go_3 : decode c_S_go 3 = .ok (.imul, 1) := by decide +kernel
theorem d_S_go_4 : decode c_S_go 4 = .ok (.istore_n 2, 1) := by decide +kernel
theorem d_S_go_5 : decode c_S_go 5 = .ok (.aload_n 0, 1) := by decide +kernel
theorem d_S_go_6 : decode c_S_go 6 = .ok (.getfield 56, 3) := by decide +kernel
theorem d_S_go_9 : decode c_S_go 9 = .ok (.bipush 8, 2) := by decide +kernel
theorem d_S_go_11 : decode c_S_go 11 = .ok (.iload_n 1, 1) := by decide +kernel
theorem d_S_go_12 : decode c_S_go 12 = .ok (.imul, 1) := by decide +kernel
theorem d_S_go_13 : decode c_S_go 13 = .ok (.aload_n 0, 1) := by decide +kernel
theorem d_S_go_14 : decode c_S_go 14 = .ok (.getfield 53, 3) := by decide +kernel
theorem d_S_go_17 : decode c_S_go 17 = .ok (.iload_n 2, 1) := by decide +kernel
theorem d_S_go_18 : decode c_S_go 18 = .ok (.iconst 4, 1) := by decide +kernel
theorem d_S_go_19 : decode c_S_go 19 = .ok (.iadd, 1) := by decide +kernel
theorem d_S_go_20 : decode c_S_go 20 = .ok (.iaload, 1) := by decide +kernel
theorem d_S_go_21 : decode c_S_go 21 = .ok (.iadd, 1) := by decide +kernel
theorem d_S_go_22 : decode c_S_go 22 = .ok (.iaload, 1) := by decide +kernel
theorem d_S_go_23 : decode c_S_go 23 = .ok (.istore_n 3, 1) := by decide +kernel
theorem d_S_go_24 : decode c_S_go 24 = .ok (.aload_n 0, 1) := by decide +kernel
theorem d_S_go_25 : decode c_S_go 25 = .ok (.getfield 15, 3) := by decide +kernel
theorem d_S_go_28 : decode c_S_go 28 = .ok (.iload_n 3, 1) := by decide +kernel
theorem d_S_go_29 : decode c_S_go 29 = .ok (.iaload, 1) := by decide +kernel
theorem d_S_go_30 : decode c_S_go 30 = .ok (.aload_n 0, 1) := by decide +kernel
theorem d_S_go_31 : decode c_S_go 31 = .ok (.getfield 53, 3) := by decide +kernel
theorem d_S_go_34 : decode c_S_go 34 = .ok (.iload_n 2, 1) := by decide +kernel
theorem d_S_go_35 : decode c_S_go 35 = .ok (.iaload, 1) := by decide +kernel
theorem d_S_go_36 : decode c_S_go 36 = .ok (.isub, 1) := by decide +kernel
theorem d_S_go_37 : decode c_S_go 37 = .ok (.istore 4, 2) := by decide +kernel
theorem d_S_go_39 : decode c_S_go 39 = .ok (.aload_n 0, 1) := by decide +kernel
theorem d_S_go_40 : decode c_S_go 40 = .ok (.getfield 19, 3) := by decide +kernel
theorem d_S_go_43 : decode c_S_go 43 = .ok (.iload_n 3, 1) := by decide +kernel
theorem d_S_go_44 : decode c_S_go 44 = .ok (.iaload, 1) := by decide +kernel
theorem d_S_go_45 : decode c_S_go 45 = .ok (.aload_n 0, 1) := by decide +kernel
theorem d_S_go_46 : decode c_S_go 46 = .ok (.getfield 53, 3) := by decide +kernel
theorem d_S_go_49 : decode c_S_go 49 = .ok (.iload_n 2, 1) := by decide +kernel
theorem d_S_go_50 : decode c_S_go 50 = .ok (.iconst 1, 1) := by decide +kernel
theorem d_S_go_51 : decode c_S_go 51 = .ok (.iadd, 1) := by decide +kernel
theorem d_S_go_52 : decode c_S_go 52 = .ok (.iaload, 1) := by decide +kernel
theorem d_S_go_53 : decode c_S_go 53 = .ok (.isub, 1) := by decide +kernel
theorem d_S_go_54 : decode c_S_go 54 = .ok (.istore 5, 2) := by decide +kernel
theorem d_S_go_56 : decode c_S_go 56 = .ok (.iload 4, 2) := by decide +kernel
theorem d_S_go_58 : decode c_S_go 58 = .ok (.invokestatic 79, 3) := by decide +kernel
theorem d_S_go_61 : decode c_S_go 61 = .ok (.iload 5, 2) := by decide +kernel
theorem d_S_go_63 : decode c_S_go 63 = .ok (.invokestatic 79, 3) := by decide +kernel
theorem d_S_go_66 : decode c_S_go 66 = .ok (.iadd, 1) := by decide +kernel
theorem d_S_go_67 : decode c_S_go 67 = .ok (.iconst 2, 1) := by decide +kernel
theorem d_S_go_68 : decode c_S_go 68 = .ok (.if_icmp .ge 7, 3) := by decide +kernel
theorem d_S_go_71 : decode c_S_go 71 = .ok (.iconst 1, 1) := by decide +kernel
theorem d_S_go_72 : decode c_S_go 72 = .ok (.goto 4, 3) := by decide +kernel
theorem d_S_go_75 : decode c_S_go 75 = .ok (.iconst 0, 1) := by decide +kernel
theorem d_S_go_76 : decode c_S_go 76 = .ok (.istore 6, 2) := by decide +kernel
theorem d_S_go_78 : decode c_S_go 78 = .ok (.aload_n 0, 1) := by decide +kernel
theorem d_S_go_79 : decode c_S_go 79 = .ok (.getfield 25, 3) := by decide +kernel
theorem d_S_go_82 : decode c_S_go 82 = .ok (.iload_n 3, 1) := by decide +kernel
theorem d_S_go_83 : decode c_S_go 83 = .ok (.iaload, 1) := by decide +kernel
theorem d_S_go_84 : decode c_S_go 84 = .ok (.sipush 150, 3) := by decide +kernel
theorem d_S_go_87 : decode c_S_go 87 = .ok (.if_icmp .ge 47, 3) := by decide +kernel
theorem d_S_go_90 : decode c_S_go 90 = .ok (.iload 6, 2) := by decide +kernel
theorem d_S_go_92 : decode c_S_go 92 = .ok (.ifCond .ne 42, 3) := by decide +kernel
theorem d_S_go_95 : decode c_S_go 95 = .ok (.iload 4, 2) := by decide +kernel
theorem d_S_go_97 : decode c_S_go 97 = .ok (.ifCond .eq 20, 3) := by decide +kernel
theorem d_S_go_100 : decode c_S_go 100 = .ok (.aload_n 0, 1) := by decide +kernel
theorem d_S_go_101 : decode c_S_go 101 = .ok (.getfield 53, 3) := by decide +kernel
theorem d_S_go_104 : decode c_S_go 104 = .ok (.iload_n 2, 1) := by decide +kernel
theorem d_S_go_105 : decode c_S_go 105 = .ok (.dup2, 1) := by decide +kernel
theorem d_S_go_106 : decode c_S_go 106 = .ok (.iaload, 1) := by decide +kernel
theorem d_S_go_107 : decode c_S_go 107 = .ok (.iload 4, 2) := by decide +kernel
theorem d_S_go_109 : decode c_S_go 109 = .ok (.invokestatic 139, 3) := by decide +kernel
theorem d_S_go_112 : decode c_S_go 112 = .ok (.iadd, 1) := by decide +kernel
theorem d_S_go_113 : decode c_S_go 113 = .ok (.iastore, 1) := by decide +kernel
theorem d_S_go_114 : decode c_S_go 114 = .ok (.goto 19, 3) := by decide +kernel
theorem d_S_go_117 : decode c_S_go 117 = .ok (.aload_n 0, 1) := by decide +kernel
theorem d_S_go_118 : decode c_S_go 118 = .ok (.getfield 53, 3) := by decide +kernel
theorem d_S_go_121 : decode c_S_go 121 = .ok (.iload_n 2, 1) := by decide +kernel
theorem d_S_go_122 : decode c_S_go 122 = .ok (.iconst 1, 1) := by decide +kernel
theorem d_S_go_123 : decode c_S_go 123 = .ok (.iadd, 1) := by decide +kernel
theorem d_S_go_124 : decode c_S_go 124 = .ok (.dup2, 1) := by decide +kernel
theorem d_S_go_125 : decode c_S_go 125 = .ok (.iaload, 1) := by decide +kernel
theorem d_S_go_126 : decode c_S_go 126 = .ok (.iload 5, 2) := by decide +kernel
theorem d_S_go_128 : decode c_S_go 128 = .ok (.invokestatic 139, 3) := by decide +kernel
theorem d_S_go_131 : decode c_S_go 131 = .ok (.iadd, 1) := by decide +kernel
theorem d_S_go_132 : decode c_S_go 132 = .ok (.iastore, 1) := by decide +kernel
theorem d_S_go_133 : decode c_S_go 133 = .ok (.return_, 1) := by decide +kernel
theorem d_S_go_134 : decode c_S_go 134 = .ok (.aload_n 0, 1) := by decide +kernel
theorem d_S_go_135 : decode c_S_go 135 = .ok (.getfield 25, 3) := by decide +kernel
theorem d_S_go_138 : decode c_S_go 138 = .ok (.iload_n 3, 1) := by decide +kernel
theorem d_S_go_139 : decode c_S_go 139 = .ok (.iaload, 1) := by decide +kernel
theorem d_S_go_140 : decode c_S_go 140 = .ok (.sipush 150, 3) := by decide +kernel
theorem d_S_go_143 : decode c_S_go 143 = .ok (.if_icmp .ge 42, 3) := by decide +kernel
theorem d_S_go_146 : decode c_S_go 146 = .ok (.aload_n 0, 1) := by decide +kernel
theorem d_S_go_147 : decode c_S_go 147 = .ok (.getfield 25, 3) := by decide +kernel
theorem d_S_go_150 : decode c_S_go 150 = .ok (.iload_n 3, 1) := by decide +kernel
theorem d_S_go_151 : decode c_S_go 151 = .ok (.sipush 200, 3) := by decide +kernel
theorem d_S_go_154 : decode c_S_go 154 = .ok (.aload_n 0, 1) := by decide +kernel
theorem d_S_go_155 : decode c_S_go 155 = .ok (.getfield 25, 3) := by decide +kernel
theorem d_S_go_158 : decode c_S_go 158 = .ok (.iload_n 3, 1) := by decide +kernel
theorem d_S_go_159 : decode c_S_go 159 = .ok (.iaload, 1) := by decide +kernel
theorem d_S_go_160 : decode c_S_go 160 = .ok (.aload_n 0, 1) := by decide +kernel
theorem d_S_go_161 : decode c_S_go 161 = .ok (.getfield 53, 3) := by decide +kernel
theorem d_S_go_164 : decode c_S_go 164 = .ok (.iload_n 2, 1) := by decide +kernel
theorem d_S_go_165 : decode c_S_go 165 = .ok (.iconst 2, 1) := by decide +kernel
theorem d_S_go_166 : decode c_S_go 166 = .ok (.iadd, 1) := by decide +kernel
theorem d_S_go_167 : decode c_S_go 167 = .ok (.iaload, 1) := by decide +kernel
theorem d_S_go_168 : decode c_S_go 168 = .ok (.iadd, 1) := by decide +kernel
theorem d_S_go_169 : decode c_S_go 169 = .ok (.invokestatic 144, 3) := by decide +kernel
theorem d_S_go_172 : decode c_S_go 172 = .ok (.iastore, 1) := by decide +kernel
theorem d_S_go_173 : decode c_S_go 173 = .ok (.aload_n 0, 1) := by decide +kernel
theorem d_S_go_174 : decode c_S_go 174 = .ok (.getfield 53, 3) := by decide +kernel
theorem d_S_go_177 : decode c_S_go 177 = .ok (.iload_n 2, 1) := by decide +kernel
theorem d_S_go_178 : decode c_S_go 178 = .ok (.iconst 5, 1) := by decide +kernel
theorem d_S_go_179 : decode c_S_go 179 = .ok (.iadd, 1) := by decide +kernel
theorem d_S_go_180 : decode c_S_go 180 = .ok (.dup2, 1) := by decide +kernel
theorem d_S_go_181 : decode c_S_go 181 = .ok (.iaload, 1) := by decide +kernel
theorem d_S_go_182 : decode c_S_go 182 = .ok (.iconst 1, 1) := by decide +kernel
theorem d_S_go_183 : decode c_S_go 183 = .ok (.iadd, 1) := by decide +kernel
theorem d_S_go_184 : decode c_S_go 184 = .ok (.iastore, 1) := by decide +kernel
theorem d_S_go_185 : decode c_S_go 185 = .ok (.aload_n 0, 1) := by decide +kernel
theorem d_S_go_186 : decode c_S_go 186 = .ok (.getfield 53, 3) := by decide +kernel
theorem d_S_go_189 : decode c_S_go 189 = .ok (.iload_n 2, 1) := by decide +kernel
theorem d_S_go_190 : decode c_S_go 190 = .ok (.iconst 4, 1) := by decide +kernel
theorem d_S_go_191 : decode c_S_go 191 = .ok (.iadd, 1) := by decide +kernel
theorem d_S_go_192 : decode c_S_go 192 = .ok (.aload_n 0, 1) := by decide +kernel
theorem d_S_go_193 : decode c_S_go 193 = .ok (.getfield 53, 3) := by decide +kernel
theorem d_S_go_196 : decode c_S_go 196 = .ok (.iload_n 2, 1) := by decide +kernel
theorem d_S_go_197 : decode c_S_go 197 = .ok (.iconst 4, 1) := by decide +kernel
theorem d_S_go_198 : decode c_S_go 198 = .ok (.iadd, 1) := by decide +kernel
theorem d_S_go_199 : decode c_S_go 199 = .ok (.iaload, 1) := by decide +kernel
theorem d_S_go_200 : decode c_S_go 200 = .ok (.iconst 1, 1) := by decide +kernel
theorem d_S_go_201 : decode c_S_go 201 = .ok (.iadd, 1) := by decide +kernel
theorem d_S_go_202 : decode c_S_go 202 = .ok (.aload_n 0, 1) := by decide +kernel
theorem d_S_go_203 : decode c_S_go 203 = .ok (.getfield 53, 3) := by decide +kernel
theorem d_S_go_206 : decode c_S_go 206 = .ok (.iload_n 2, 1) := by decide +kernel
theorem d_S_go_207 : decode c_S_go 207 = .ok (.iconst 3, 1) := by decide +kernel
theorem d_S_go_208 : decode c_S_go 208 = .ok (.iadd, 1) := by decide +kernel
theorem d_S_go_209 : decode c_S_go 209 = .ok (.iaload, 1) := by decide +kernel
theorem d_S_go_210 : decode c_S_go 210 = .ok (.irem, 1) := by decide +kernel
theorem d_S_go_211 : decode c_S_go 211 = .ok (.iastore, 1) := by decide +kernel
theorem d_S_go_212 : decode c_S_go 212 = .ok (.return_, 1) := by decide +kernel
theorem d_S_sum_0 : decode c_S_sum 0 = .ok (.iconst 0, 1) := by decide +kernel
theorem d_S_sum_1 : decode c_S_sum 1 = .ok (.istore_n 2, 1) := by decide +kernel
theorem d_S_sum_2 : decode c_S_sum 2 = .ok (.iconst 0, 1) := by decide +kernel
theorem d_S_sum_3 : decode c_S_sum 3 = .ok (.istore_n 3, 1) := by decide +kernel
theorem d_S_sum_4 : decode c_S_sum 4 = .ok (.iload_n 3, 1) := by decide +kernel
theorem d_S_sum_5 : decode c_S_sum 5 = .ok (.aload_n 0, 1) := by decide +kernel
theorem d_S_sum_6 : decode c_S_sum 6 = .ok (.getfield 69, 3) := by decide +kernel
theorem d_S_sum_9 : decode c_S_sum 9 = .ok (.if_icmp .ge 113, 3) := by decide +kernel
theorem d_S_sum_12 : decode c_S_sum 12 = .ok (.iload_n 2, 1) := by decide +kernel
theorem d_S_sum_13 : decode c_S_sum 13 = .ok (.iload_n 1, 1) := by decide +kernel
theorem d_S_sum_14 : decode c_S_sum 14 = .ok (.iconst 2, 1) := by decide +kernel
theorem d_S_sum_15 : decode c_S_sum 15 = .ok (.if_icmp .ne 20, 3) := by decide +kernel
theorem d_S_sum_18 : decode c_S_sum 18 = .ok (.aload_n 0, 1) := by decide +kernel
theorem d_S_sum_19 : decode c_S_sum 19 = .ok (.getfield 40, 3) := by decide +kernel
theorem d_S_sum_22 : decode c_S_sum 22 = .ok (.iload_n 3, 1) := by decide +kernel
theorem d_S_sum_23 : decode c_S_sum 23 = .ok (.baload, 1) := by decide +kernel
theorem d_S_sum_24 : decode c_S_sum 24 = .ok (.ifCond .eq 7, 3) := by decide +kernel
theorem d_S_sum_27 : decode c_S_sum 27 = .ok (.iconst 1, 1) := by decide +kernel
theorem d_S_sum_28 : decode c_S_sum 28 = .ok (.goto 86, 3) := by decide +kernel
theorem d_S_sum_31 : decode c_S_sum 31 = .ok (.iconst 0, 1) := by decide +kernel
theorem d_S_sum_32 : decode c_S_sum 32 = .ok (.goto 82, 3) := by decide +kernel
theorem d_S_sum_35 : decode c_S_sum 35 = .ok (.iload_n 1, 1) := by decide +kernel
theorem d_S_sum_36 : decode c_S_sum 36 = .ok (.iconst 4, 1) := by decide +kernel
theorem d_S_sum_37 : decode c_S_sum 37 = .ok (.if_icmp .ne 20, 3) := by decide +kernel
theorem d_S_sum_40 : decode c_S_sum 40 = .ok (.aload_n 0, 1) := by decide +kernel
theorem d_S_sum_41 : decode c_S_sum 41 = .ok (.getfield 44, 3) := by decide +kernel
theorem d_S_sum_44 : decode c_S_sum 44 = .ok (.iload_n 3, 1) := by decide +kernel
theorem d_S_sum_45 : decode c_S_sum 45 = .ok (.iaload, 1) := by decide +kernel
theorem d_S_sum_46 : decode c_S_sum 46 = .ok (.ifCond .le 7, 3) := by decide +kernel
theorem d_S_sum_49 : decode c_S_sum 49 = .ok (.iconst 1, 1) := by decide +kernel
theorem d_S_sum_50 : decode c_S_sum 50 = .ok (.goto 64, 3) := by decide +kernel
theorem d_S_sum_53 : decode c_S_sum 53 = .ok (.iconst 0, 1) := by decide +kernel
theorem d_S_sum_54 : decode c_S_sum 54 = .ok (.goto 60, 3) := by decide +kernel
theorem d_S_sum_57 : decode c_S_sum 57 = .ok (.iload_n 1, 1) := by decide +kernel
theorem d_S_sum_58 : decode c_S_sum 58 = .ok (.iconst 5, 1) := by decide +kernel
theorem d_S_sum_59 : decode c_S_sum 59 = .ok (.if_icmp .ne 12, 3) := by decide +kernel
theorem d_S_sum_62 : decode c_S_sum 62 = .ok (.aload_n 0, 1) := by decide +kernel
theorem d_S_sum_63 : decode c_S_sum 63 = .ok (.getfield 25, 3) := by decide +kernel
theorem d_S_sum_66 : decode c_S_sum 66 = .ok (.iload_n 3, 1) := by decide +kernel
theorem d_S_sum_67 : decode c_S_sum 67 = .ok (.iaload, 1) := by decide +kernel
theorem d_S_sum_68 : decode c_S_sum 68 = .ok (.goto 46, 3) := by decide +kernel
theorem d_S_sum_71 : decode c_S_sum 71 = .ok (.iload_n 1, 1) := by decide +kernel
theorem d_S_sum_72 : decode c_S_sum 72 = .ok (.bipush 6, 2) := by decide +kernel
theorem d_S_sum_74 : decode c_S_sum 74 = .ok (.if_icmp .ne 12, 3) := by decide +kernel
theorem d_S_sum_77 : decode c_S_sum 77 = .ok (.aload_n 0, 1) := by decide +kernel
theorem d_S_sum_78 : decode c_S_sum 78 = .ok (.getfield 47, 3) := by decide +kernel
theorem d_S_sum_81 : decode c_S_sum 81 = .ok (.iload_n 3, 1) := by decide +kernel
theorem d_S_sum_82 : decode c_S_sum 82 = .ok (.iaload, 1) := by decide +kernel
theorem d_S_sum_83 : decode c_S_sum 83 = .ok (.goto 31, 3) := by decide +kernel
theorem d_S_sum_86 : decode c_S_sum 86 = .ok (.iload_n 1, 1) := by decide +kernel
theorem d_S_sum_87 : decode c_S_sum 87 = .ok (.bipush 7, 2) := by decide +kernel
theorem d_S_sum_89 : decode c_S_sum 89 = .ok (.if_icmp .ne 12, 3) := by decide +kernel
theorem d_S_sum_92 : decode c_S_sum 92 = .ok (.aload_n 0, 1) := by decide +kernel
theorem d_S_sum_93 : decode c_S_sum 93 = .ok (.getfield 50, 3) := by decide +kernel
theorem d_S_sum_96 : decode c_S_sum 96 = .ok (.iload_n 3, 1) := by decide +kernel
theorem d_S_sum_97 : decode c_S_sum 97 = .ok (.iaload, 1) := by decide +kernel
theorem d_S_sum_98 : decode c_S_sum 98 = .ok (.goto 16, 3) := by decide +kernel
theorem d_S_sum_101 : decode c_S_sum 101 = .ok (.aload_n 0, 1) := by decide +kernel
theorem d_S_sum_102 : decode c_S_sum 102 = .ok (.iload_n 3, 1) := by decide +kernel
theorem d_S_sum_103 : decode c_S_sum 103 = .ok (.invokevirtual 85, 3) := by decide +kernel
theorem d_S_sum_106 : decode c_S_sum 106 = .ok (.ifCond .eq 7, 3) := by decide +kernel
theorem d_S_sum_109 : decode c_S_sum 109 = .ok (.iconst 1, 1) := by decide +kernel
theorem d_S_sum_110 : decode c_S_sum 110 = .ok (.goto 4, 3) := by decide +kernel
theorem d_S_sum_113 : decode c_S_sum 113 = .ok (.iconst 0, 1) := by decide +kernel
theorem d_S_sum_114 : decode c_S_sum 114 = .ok (.iadd, 1) := by decide +kernel
theorem d_S_sum_115 : decode c_S_sum 115 = .ok (.istore_n 2, 1) := by decide +kernel
theorem d_S_sum_116 : decode c_S_sum 116 = .ok (.iinc 3 1, 3) := by decide +kernel
theorem d_S_sum_119 : decode c_S_sum 119 = .ok (.goto (-115), 3) := by decide +kernel
theorem d_S_sum_122 : decode c_S_sum 122 = .ok (.iload_n 2, 1) := by decide +kernel
theorem d_S_sum_123 : decode c_S_sum 123 = .ok (.ireturn, 1) := by decide +kernel
