theorem dX6_act_0 : decode prog_9_method_9_code 0 = .ok (.aload_n 0, 1) := by decide +kernel
theorem dX6_act_1 : decode prog_9_method_9_code 1 = .ok (.getfield 37, 3) := by decide +kernel
theorem dX6_act_4 : decode prog_9_method_9_code 4 = .ok (.iload_n 1, 1) := by decide +kernel
theorem dX6_act_5 : decode prog_9_method_9_code 5 = .ok (.iaload, 1) := by decide +kernel
theorem dX6_act_6 : decode prog_9_method_9_code 6 = .ok (.istore_n 2, 1) := by decide +kernel
theorem dX6_act_7 : decode prog_9_method_9_code 7 = .ok (.aload_n 0, 1) := by decide +kernel
theorem dX6_act_8 : decode prog_9_method_9_code 8 = .ok (.getfield 3, 3) := by decide +kernel
theorem dX6_act_11 : decode prog_9_method_9_code 11 = .ok (.getfield 106, 3) := by decide +kernel
theorem dX6_act_14 : decode prog_9_method_9_code 14 = .ok (.bipush 24, 2) := by decide +kernel
theorem dX6_act_16 : decode prog_9_method_9_code 16 = .ok (.aload_n 0, 1) := by decide +kernel
theorem dX6_act_17 : decode prog_9_method_9_code 17 = .ok (.getfield 31, 3) := by decide +kernel
theorem dX6_act_20 : decode prog_9_method_9_code 20 = .ok (.iload_n 1, 1) := by decide +kernel
theorem dX6_act_21 : decode prog_9_method_9_code 21 = .ok (.iaload, 1) := by decide +kernel
theorem dX6_act_22 : decode prog_9_method_9_code 22 = .ok (.imul, 1) := by decide +kernel
theorem dX6_act_23 : decode prog_9_method_9_code 23 = .ok (.aload_n 0, 1) := by decide +kernel
theorem dX6_act_24 : decode prog_9_method_9_code 24 = .ok (.getfield 34, 3) := by decide +kernel
theorem dX6_act_27 : decode prog_9_method_9_code 27 = .ok (.iload_n 1, 1) := by decide +kernel
theorem dX6_act_28 : decode prog_9_method_9_code 28 = .ok (.iaload, 1) := by decide +kernel
theorem dX6_act_29 : decode prog_9_method_9_code 29 = .ok (.iadd, 1) := by decide +kernel
theorem dX6_act_30 : decode prog_9_method_9_code 30 = .ok (.iaload, 1) := by decide +kernel
theorem dX6_act_31 : decode prog_9_method_9_code 31 = .ok (.istore_n 3, 1) := by decide +kernel
theorem dX6_act_32 : decode prog_9_method_9_code 32 = .ok (.aload_n 0, 1) := by decide +kernel
theorem dX6_act_33 : decode prog_9_method_9_code 33 = .ok (.getfield 34, 3) := by decide +kernel
theorem dX6_act_36 : decode prog_9_method_9_code 36 = .ok (.iload_n 1, 1) := by decide +kernel
theorem dX6_act_37 : decode prog_9_method_9_code 37 = .ok (.aload_n 0, 1) := by decide +kernel
theorem dX6_act_38 : decode prog_9_method_9_code 38 = .ok (.getfield 34, 3) := by decide +kernel
theorem dX6_act_41 : decode prog_9_method_9_code 41 = .ok (.iload_n 1, 1) := by decide +kernel
theorem dX6_act_42 : decode prog_9_method_9_code 42 = .ok (.iaload, 1) := by decide +kernel
theorem dX6_act_43 : decode prog_9_method_9_code 43 = .ok (.iconst 1, 1) := by decide +kernel
theorem dX6_act_44 : decode prog_9_method_9_code 44 = .ok (.iadd, 1) := by decide +kernel
theorem dX6_act_45 : decode prog_9_method_9_code 45 = .ok (.aload_n 0, 1) := by decide +kernel
theorem dX6_act_46 : decode prog_9_method_9_code 46 = .ok (.getfield 3, 3) := by decide +kernel
theorem dX6_act_49 : decode prog_9_method_9_code 49 = .ok (.getfield 109, 3) := by decide +kernel
theorem dX6_act_52 : decode prog_9_method_9_code 52 = .ok (.aload_n 0, 1) := by decide +kernel
theorem dX6_act_53 : decode prog_9_method_9_code 53 = .ok (.getfield 31, 3) := by decide +kernel
theorem dX6_act_56 : decode prog_9_method_9_code 56 = .ok (.iload_n 1, 1) := by decide +kernel
theorem dX6_act_57 : decode prog_9_method_9_code 57 = .ok (.iaload, 1) := by decide +kernel
theorem dX6_act_58 : decode prog_9_method_9_code 58 = .ok (.iaload, 1) := by decide +kernel
theorem dX6_act_59 : decode prog_9_method_9_code 59 = .ok (.irem, 1) := by decide +kernel
theorem dX6_act_60 : decode prog_9_method_9_code 60 = .ok (.iastore, 1) := by decide +kernel
theorem dX6_act_61 : decode prog_9_method_9_code 61 = .ok (.aload_n 0, 1) := by decide +kernel
theorem dX6_act_62 : decode prog_9_method_9_code 62 = .ok (.getfield 15, 3) := by decide +kernel
theorem dX6_act_65 : decode prog_9_method_9_code 65 = .ok (.iload_n 1, 1) := by decide +kernel
theorem dX6_act_66 : decode prog_9_method_9_code 66 = .ok (.iaload, 1) := by decide +kernel
theorem dX6_act_67 : decode prog_9_method_9_code 67 = .ok (.istore 4, 2) := by decide +kernel
theorem dX6_act_69 : decode prog_9_method_9_code 69 = .ok (.aload_n 0, 1) := by decide +kernel
theorem dX6_act_70 : decode prog_9_method_9_code 70 = .ok (.getfield 19, 3) := by decide +kernel
theorem dX6_act_73 : decode prog_9_method_9_code 73 = .ok (.iload_n 1, 1) := by decide +kernel
theorem dX6_act_74 : decode prog_9_method_9_code 74 = .ok (.iaload, 1) := by decide +kernel
theorem dX6_act_75 : decode prog_9_method_9_code 75 = .ok (.istore 5, 2) := by decide +kernel
theorem dX6_act_77 : decode prog_9_method_9_code 77 = .ok (.iload_n 2, 1) := by decide +kernel
theorem dX6_act_78 : decode prog_9_method_9_code 78 = .ok (.iconst (-1), 1) := by decide +kernel
theorem dX6_act_79 : decode prog_9_method_9_code 79 = .ok (.if_icmp .ne 7, 3) := by decide +kernel
theorem dX6_act_82 : decode prog_9_method_9_code 82 = .ok (.iconst 0, 1) := by decide +kernel
theorem dX6_act_83 : decode prog_9_method_9_code 83 = .ok (.goto 9, 3) := by decide +kernel
theorem dX6_act_86 : decode prog_9_method_9_code 86 = .ok (.aload_n 0, 1) := by decide +kernel
theorem dX6_act_87 : decode prog_9_method_9_code 87 = .ok (.getfield 15, 3) := by decide +kernel
theorem dX6_act_90 : decode prog_9_method_9_code 90 = .ok (.iload_n 2, 1) := by decide +kernel
theorem dX6_act_91 : decode prog_9_method_9_code 91 = .ok (.iaload, 1) := by decide +kernel
theorem dX6_act_92 : decode prog_9_method_9_code 92 = .ok (.istore 6, 2) := by decide +kernel
theorem dX6_act_94 : decode prog_9_method_9_code 94 = .ok (.iload_n 2, 1) := by decide +kernel
theorem dX6_act_95 : decode prog_9_method_9_code 95 = .ok (.iconst (-1), 1) := by decide +kernel
theorem dX6_act_96 : decode prog_9_method_9_code 96 = .ok (.if_icmp .ne 7, 3) := by decide +kernel
theorem dX6_act_99 : decode prog_9_method_9_code 99 = .ok (.iconst 0, 1) := by decide +kernel
theorem dX6_act_100 : decode prog_9_method_9_code 100 = .ok (.goto 9, 3) := by decide +kernel
theorem dX6_act_103 : decode prog_9_method_9_code 103 = .ok (.aload_n 0, 1) := by decide +kernel
theorem dX6_act_104 : decode prog_9_method_9_code 104 = .ok (.getfield 19, 3) := by decide +kernel
theorem dX6_act_107 : decode prog_9_method_9_code 107 = .ok (.iload_n 2, 1) := by decide +kernel
theorem dX6_act_108 : decode prog_9_method_9_code 108 = .ok (.iaload, 1) := by decide +kernel
theorem dX6_act_109 : decode prog_9_method_9_code 109 = .ok (.istore 7, 2) := by decide +kernel
theorem dX6_act_111 : decode prog_9_method_9_code 111 = .ok (.iload_n 3, 1) := by decide +kernel
theorem dX6_act_112 : decode prog_9_method_9_code 112 = .ok (.bipush 116, 2) := by decide +kernel
theorem dX6_act_114 : decode prog_9_method_9_code 114 = .ok (.if_icmp .ne 7, 3) := by decide +kernel
theorem dX6_act_117 : decode prog_9_method_9_code 117 = .ok (.iconst 1, 1) := by decide +kernel
theorem dX6_act_118 : decode prog_9_method_9_code 118 = .ok (.goto 14, 3) := by decide +kernel
theorem dX6_act_121 : decode prog_9_method_9_code 121 = .ok (.iload_n 3, 1) := by decide +kernel
theorem dX6_act_122 : decode prog_9_method_9_code 122 = .ok (.bipush 117, 2) := by decide +kernel
theorem dX6_act_124 : decode prog_9_method_9_code 124 = .ok (.if_icmp .ne 7, 3) := by decide +kernel
theorem dX6_act_127 : decode prog_9_method_9_code 127 = .ok (.iconst 3, 1) := by decide +kernel
theorem dX6_act_128 : decode prog_9_method_9_code 128 = .ok (.goto 4, 3) := by decide +kernel
theorem dX6_act_131 : decode prog_9_method_9_code 131 = .ok (.iconst 0, 1) := by decide +kernel
theorem dX6_act_132 : decode prog_9_method_9_code 132 = .ok (.istore 8, 2) := by decide +kernel
theorem dX6_act_134 : decode prog_9_method_9_code 134 = .ok (.iload_n 3, 1) := by decide +kernel
theorem dX6_act_135 : decode prog_9_method_9_code 135 = .ok (.bipush 102, 2) := by decide +kernel
theorem dX6_act_137 : decode prog_9_method_9_code 137 = .ok (.if_icmp .ne 7, 3) := by decide +kernel
theorem dX6_act_140 : decode prog_9_method_9_code 140 = .ok (.iconst 0, 1) := by decide +kernel
theorem dX6_act_141 : decode prog_9_method_9_code 141 = .ok (.goto 34, 3) := by decide +kernel
theorem dX6_act_144 : decode prog_9_method_9_code 144 = .ok (.iload_n 3, 1) := by decide +kernel
theorem dX6_act_145 : decode prog_9_method_9_code 145 = .ok (.bipush 114, 2) := by decide +kernel
theorem dX6_act_147 : decode prog_9_method_9_code 147 = .ok (.if_icmp .ne 7, 3) := by decide +kernel
theorem dX6_act_150 : decode prog_9_method_9_code 150 = .ok (.iconst 1, 1) := by decide +kernel
theorem dX6_act_151 : decode prog_9_method_9_code 151 = .ok (.goto 24, 3) := by decide +kernel
theorem dX6_act_154 : decode prog_9_method_9_code 154 = .ok (.iload_n 3, 1) := by decide +kernel
theorem dX6_act_155 : decode prog_9_method_9_code 155 = .ok (.bipush 98, 2) := by decide +kernel
theorem dX6_act_157 : decode prog_9_method_9_code 157 = .ok (.if_icmp .ne 7, 3) := by decide +kernel
theorem dX6_act_160 : decode prog_9_method_9_code 160 = .ok (.iconst 2, 1) := by decide +kernel
theorem dX6_act_161 : decode prog_9_method_9_code 161 = .ok (.goto 14, 3) := by decide +kernel
theorem dX6_act_164 : decode prog_9_method_9_code 164 = .ok (.iload_n 3, 1) := by decide +kernel
theorem dX6_act_165 : decode prog_9_method_9_code 165 = .ok (.bipush 108, 2) := by decide +kernel
theorem dX6_act_167 : decode prog_9_method_9_code 167 = .ok (.if_icmp .ne 7, 3) := by decide +kernel
theorem dX6_act_170 : decode prog_9_method_9_code 170 = .ok (.iconst 3, 1) := by decide +kernel
theorem dX6_act_171 : decode prog_9_method_9_code 171 = .ok (.goto 4, 3) := by decide +kernel
theorem dX6_act_174 : decode prog_9_method_9_code 174 = .ok (.iconst (-1), 1) := by decide +kernel
theorem dX6_act_175 : decode prog_9_method_9_code 175 = .ok (.istore 9, 2) := by decide +kernel
theorem dX6_act_177 : decode prog_9_method_9_code 177 = .ok (.iload 9, 2) := by decide +kernel
theorem dX6_act_179 : decode prog_9_method_9_code 179 = .ok (.iconst (-1), 1) := by decide +kernel
theorem dX6_act_180 : decode prog_9_method_9_code 180 = .ok (.if_icmp .eq 63, 3) := by decide +kernel
theorem dX6_act_183 : decode prog_9_method_9_code 183 = .ok (.aload_n 0, 1) := by decide +kernel
theorem dX6_act_184 : decode prog_9_method_9_code 184 = .ok (.getfield 22, 3) := by decide +kernel
theorem dX6_act_187 : decode prog_9_method_9_code 187 = .ok (.iload_n 1, 1) := by decide +kernel
theorem dX6_act_188 : decode prog_9_method_9_code 188 = .ok (.iaload, 1) := by decide +kernel
theorem dX6_act_189 : decode prog_9_method_9_code 189 = .ok (.iload 9, 2) := by decide +kernel
theorem dX6_act_191 : decode prog_9_method_9_code 191 = .ok (.iadd, 1) := by decide +kernel
theorem dX6_act_192 : decode prog_9_method_9_code 192 = .ok (.iconst 4, 1) := by decide +kernel
theorem dX6_act_193 : decode prog_9_method_9_code 193 = .ok (.irem, 1) := by decide +kernel
theorem dX6_act_194 : decode prog_9_method_9_code 194 = .ok (.istore 9, 2) := by decide +kernel
theorem dX6_act_196 : decode prog_9_method_9_code 196 = .ok (.iload 4, 2) := by decide +kernel
theorem dX6_act_198 : decode prog_9_method_9_code 198 = .ok (.getstatic 112, 3) := by decide +kernel
theorem dX6_act_201 : decode prog_9_method_9_code 201 = .ok (.iload 9, 2) := by decide +kernel
theorem dX6_act_203 : decode prog_9_method_9_code 203 = .ok (.iaload, 1) := by decide +kernel
theorem dX6_act_204 : decode prog_9_method_9_code 204 = .ok (.iadd, 1) := by decide +kernel
theorem dX6_act_205 : decode prog_9_method_9_code 205 = .ok (.istore 4, 2) := by decide +kernel
theorem dX6_act_207 : decode prog_9_method_9_code 207 = .ok (.iload 5, 2) := by decide +kernel
theorem dX6_act_209 : decode prog_9_method_9_code 209 = .ok (.getstatic 115, 3) := by decide +kernel
theorem dX6_act_212 : decode prog_9_method_9_code 212 = .ok (.iload 9, 2) := by decide +kernel
theorem dX6_act_214 : decode prog_9_method_9_code 214 = .ok (.iaload, 1) := by decide +kernel
theorem dX6_act_215 : decode prog_9_method_9_code 215 = .ok (.iadd, 1) := by decide +kernel
theorem dX6_act_216 : decode prog_9_method_9_code 216 = .ok (.istore 5, 2) := by decide +kernel
theorem dX6_act_218 : decode prog_9_method_9_code 218 = .ok (.iload 6, 2) := by decide +kernel
theorem dX6_act_220 : decode prog_9_method_9_code 220 = .ok (.getstatic 112, 3) := by decide +kernel
theorem dX6_act_223 : decode prog_9_method_9_code 223 = .ok (.iload 9, 2) := by decide +kernel
theorem dX6_act_225 : decode prog_9_method_9_code 225 = .ok (.iaload, 1) := by decide +kernel
theorem dX6_act_226 : decode prog_9_method_9_code 226 = .ok (.iadd, 1) := by decide +kernel
theorem dX6_act_227 : decode prog_9_method_9_code 227 = .ok (.istore 6, 2) := by decide +kernel
theorem dX6_act_229 : decode prog_9_method_9_code 229 = .ok (.iload 7, 2) := by decide +kernel
theorem dX6_act_231 : decode prog_9_method_9_code 231 = .ok (.getstatic 115, 3) := by decide +kernel
theorem dX6_act_234 : decode prog_9_method_9_code 234 = .ok (.iload 9, 2) := by decide +kernel
theorem dX6_act_236 : decode prog_9_method_9_code 236 = .ok (.iaload, 1) := by decide +kernel
theorem dX6_act_237 : decode prog_9_method_9_code 237 = .ok (.iadd, 1) := by decide +kernel
theorem dX6_act_238 : decode prog_9_method_9_code 238 = .ok (.istore 7, 2) := by decide +kernel
theorem dX6_act_240 : decode prog_9_method_9_code 240 = .ok (.goto 152, 3) := by decide +kernel
theorem dX6_act_243 : decode prog_9_method_9_code 243 = .ok (.iload 8, 2) := by decide +kernel
theorem dX6_act_245 : decode prog_9_method_9_code 245 = .ok (.ifCond .le 104, 3) := by decide +kernel
theorem dX6_act_248 : decode prog_9_method_9_code 248 = .ok (.iload_n 2, 1) := by decide +kernel
theorem dX6_act_249 : decode prog_9_method_9_code 249 = .ok (.iconst (-1), 1) := by decide +kernel
theorem dX6_act_250 : decode prog_9_method_9_code 250 = .ok (.if_icmp .eq 99, 3) := by decide +kernel
theorem dX6_act_253 : decode prog_9_method_9_code 253 = .ok (.iconst 0, 1) := by decide +kernel
theorem dX6_act_254 : decode prog_9_method_9_code 254 = .ok (.istore 10, 2) := by decide +kernel
theorem dX6_act_256 : decode prog_9_method_9_code 256 = .ok (.aload_n 0, 1) := by decide +kernel
theorem dX6_act_257 : decode prog_9_method_9_code 257 = .ok (.getfield 15, 3) := by decide +kernel
theorem dX6_act_260 : decode prog_9_method_9_code 260 = .ok (.iload_n 1, 1) := by decide +kernel
theorem dX6_act_261 : decode prog_9_method_9_code 261 = .ok (.iaload, 1) := by decide +kernel
theorem dX6_act_262 : decode prog_9_method_9_code 262 = .ok (.getstatic 112, 3) := by decide +kernel
theorem dX6_act_265 : decode prog_9_method_9_code 265 = .ok (.iload 10, 2) := by decide +kernel
theorem dX6_act_267 : decode prog_9_method_9_code 267 = .ok (.iaload, 1) := by decide +kernel
theorem dX6_act_268 : decode prog_9_method_9_code 268 = .ok (.iadd, 1) := by decide +kernel
theorem dX6_act_269 : decode prog_9_method_9_code 269 = .ok (.aload_n 0, 1) := by decide +kernel
theorem dX6_act_270 : decode prog_9_method_9_code 270 = .ok (.getfield 15, 3) := by decide +kernel
theorem dX6_act_273 : decode prog_9_method_9_code 273 = .ok (.iload_n 2, 1) := by decide +kernel
theorem dX6_act_274 : decode prog_9_method_9_code 274 = .ok (.iaload, 1) := by decide +kernel
theorem dX6_act_275 : decode prog_9_method_9_code 275 = .ok (.if_icmp .ne 25, 3) := by decide +kernel
theorem dX6_act_278 : decode prog_9_method_9_code 278 = .ok (.aload_n 0, 1) := by decide +kernel
theorem dX6_act_279 : decode prog_9_method_9_code 279 = .ok (.getfield 19, 3) := by decide +kernel
theorem dX6_act_282 : decode prog_9_method_9_code 282 = .ok (.iload_n 1, 1) := by decide +kernel
theorem dX6_act_283 : decode prog_9_method_9_code 283 = .ok (.iaload, 1) := by decide +kernel
theorem dX6_act_284 : decode prog_9_method_9_code 284 = .ok (.getstatic 115, 3) := by decide +kernel
theorem dX6_act_287 : decode prog_9_method_9_code 287 = .ok (.iload 10, 2) := by decide +kernel
theorem dX6_act_289 : decode prog_9_method_9_code 289 = .ok (.iaload, 1) := by decide +kernel
theorem dX6_act_290 : decode prog_9_method_9_code 290 = .ok (.iadd, 1) := by decide +kernel
theorem dX6_act_291 : decode prog_9_method_9_code 291 = .ok (.aload_n 0, 1) := by decide +kernel
theorem dX6_act_292 : decode prog_9_method_9_code 292 = .ok (.getfield 19, 3) := by decide +kernel
theorem dX6_act_295 : decode prog_9_method_9_code 295 = .ok (.iload_n 2, 1) := by decide +kernel
theorem dX6_act_296 : decode prog_9_method_9_code 296 = .ok (.iaload, 1) := by decide +kernel
theorem dX6_act_297 : decode prog_9_method_9_code 297 = .ok (.if_icmp .eq 9, 3) := by decide +kernel
theorem dX6_act_300 : decode prog_9_method_9_code 300 = .ok (.iinc 10 1, 3) := by decide +kernel
theorem dX6_act_303 : decode prog_9_method_9_code 303 = .ok (.goto (-47), 3) := by decide +kernel
theorem dX6_act_306 : decode prog_9_method_9_code 306 = .ok (.aload_n 0, 1) := by decide +kernel
theorem dX6_act_307 : decode prog_9_method_9_code 307 = .ok (.getfield 15, 3) := by decide +kernel
theorem dX6_act_310 : decode prog_9_method_9_code 310 = .ok (.iload_n 1, 1) := by decide +kernel
theorem dX6_act_311 : decode prog_9_method_9_code 311 = .ok (.iaload, 1) := by decide +kernel
theorem dX6_act_312 : decode prog_9_method_9_code 312 = .ok (.getstatic 112, 3) := by decide +kernel
theorem dX6_act_315 : decode prog_9_method_9_code 315 = .ok (.iload 10, 2) := by decide +kernel
theorem dX6_act_317 : decode prog_9_method_9_code 317 = .ok (.iload 8, 2) := by decide +kernel
theorem dX6_act_319 : decode prog_9_method_9_code 319 = .ok (.iadd, 1) := by decide +kernel
theorem dX6_act_320 : decode prog_9_method_9_code 320 = .ok (.iconst 4, 1) := by decide +kernel
theorem dX6_act_321 : decode prog_9_method_9_code 321 = .ok (.irem, 1) := by decide +kernel
theorem dX6_act_322 : decode prog_9_method_9_code 322 = .ok (.iaload, 1) := by decide +kernel
theorem dX6_act_323 : decode prog_9_method_9_code 323 = .ok (.iadd, 1) := by decide +kernel
theorem dX6_act_324 : decode prog_9_method_9_code 324 = .ok (.istore 6, 2) := by decide +kernel
theorem dX6_act_326 : decode prog_9_method_9_code 326 = .ok (.aload_n 0, 1) := by decide +kernel
theorem dX6_act_327 : decode prog_9_method_9_code 327 = .ok (.getfield 19, 3) := by decide +kernel
theorem dX6_act_330 : decode prog_9_method_9_code 330 = .ok (.iload_n 1, 1) := by decide +kernel
theorem dX6_act_331 : decode prog_9_method_9_code 331 = .ok (.iaload, 1) := by decide +kernel
theorem dX6_act_332 : decode prog_9_method_9_code 332 = .ok (.getstatic 115, 3) := by decide +kernel
theorem dX6_act_335 : decode prog_9_method_9_code 335 = .ok (.iload 10, 2) := by decide +kernel
theorem dX6_act_337 : decode prog_9_method_9_code 337 = .ok (.iload 8, 2) := by decide +kernel
theorem dX6_act_339 : decode prog_9_method_9_code 339 = .ok (.iadd, 1) := by decide +kernel
theorem dX6_act_340 : decode prog_9_method_9_code 340 = .ok (.iconst 4, 1) := by decide +kernel
theorem dX6_act_341 : decode prog_9_method_9_code 341 = .ok (.irem, 1) := by decide +kernel
theorem dX6_act_342 : decode prog_9_method_9_code 342 = .ok (.iaload, 1) := by decide +kernel
theorem dX6_act_343 : decode prog_9_method_9_code 343 = .ok (.iadd, 1) := by decide +kernel
theorem dX6_act_344 : decode prog_9_method_9_code 344 = .ok (.istore 7, 2) := by decide +kernel
theorem dX6_act_346 : decode prog_9_method_9_code 346 = .ok (.goto 46, 3) := by decide +kernel
theorem dX6_act_349 : decode prog_9_method_9_code 349 = .ok (.iload_n 3, 1) := by decide +kernel
theorem dX6_act_350 : decode prog_9_method_9_code 350 = .ok (.bipush 115, 2) := by decide +kernel
theorem dX6_act_352 : decode prog_9_method_9_code 352 = .ok (.if_icmp .ne 40, 3) := by decide +kernel
theorem dX6_act_355 : decode prog_9_method_9_code 355 = .ok (.iload_n 2, 1) := by decide +kernel
theorem dX6_act_356 : decode prog_9_method_9_code 356 = .ok (.iconst (-1), 1) := by decide +kernel
theorem dX6_act_357 : decode prog_9_method_9_code 357 = .ok (.if_icmp .eq 35, 3) := by decide +kernel
theorem dX6_act_360 : decode prog_9_method_9_code 360 = .ok (.aload_n 0, 1) := by decide +kernel
theorem dX6_act_361 : decode prog_9_method_9_code 361 = .ok (.getfield 15, 3) := by decide +kernel
theorem dX6_act_364 : decode prog_9_method_9_code 364 = .ok (.iload_n 2, 1) := by decide +kernel
theorem dX6_act_365 : decode prog_9_method_9_code 365 = .ok (.iaload, 1) := by decide +kernel
theorem dX6_act_366 : decode prog_9_method_9_code 366 = .ok (.istore 4, 2) := by decide +kernel
theorem dX6_act_368 : decode prog_9_method_9_code 368 = .ok (.aload_n 0, 1) := by decide +kernel
theorem dX6_act_369 : decode prog_9_method_9_code 369 = .ok (.getfield 19, 3) := by decide +kernel
theorem dX6_act_372 : decode prog_9_method_9_code 372 = .ok (.iload_n 2, 1) := by decide +kernel
theorem dX6_act_373 : decode prog_9_method_9_code 373 = .ok (.iaload, 1) := by decide +kernel
theorem dX6_act_374 : decode prog_9_method_9_code 374 = .ok (.istore 5, 2) := by decide +kernel
theorem dX6_act_376 : decode prog_9_method_9_code 376 = .ok (.aload_n 0, 1) := by decide +kernel
theorem dX6_act_377 : decode prog_9_method_9_code 377 = .ok (.getfield 15, 3) := by decide +kernel
theorem dX6_act_380 : decode prog_9_method_9_code 380 = .ok (.iload_n 1, 1) := by decide +kernel
theorem dX6_act_381 : decode prog_9_method_9_code 381 = .ok (.iaload, 1) := by decide +kernel
theorem dX6_act_382 : decode prog_9_method_9_code 382 = .ok (.istore 6, 2) := by decide +kernel
theorem dX6_act_384 : decode prog_9_method_9_code 384 = .ok (.aload_n 0, 1) := by decide +kernel
theorem dX6_act_385 : decode prog_9_method_9_code 385 = .ok (.getfield 19, 3) := by decide +kernel
theorem dX6_act_388 : decode prog_9_method_9_code 388 = .ok (.iload_n 1, 1) := by decide +kernel
theorem dX6_act_389 : decode prog_9_method_9_code 389 = .ok (.iaload, 1) := by decide +kernel
theorem dX6_act_390 : decode prog_9_method_9_code 390 = .ok (.istore 7, 2) := by decide +kernel
theorem dX6_act_392 : decode prog_9_method_9_code 392 = .ok (.aload_n 0, 1) := by decide +kernel
theorem dX6_act_393 : decode prog_9_method_9_code 393 = .ok (.iload 4, 2) := by decide +kernel
theorem dX6_act_395 : decode prog_9_method_9_code 395 = .ok (.iload 5, 2) := by decide +kernel
theorem dX6_act_397 : decode prog_9_method_9_code 397 = .ok (.iload_n 1, 1) := by decide +kernel
theorem dX6_act_398 : decode prog_9_method_9_code 398 = .ok (.iload_n 2, 1) := by decide +kernel
theorem dX6_act_399 : decode prog_9_method_9_code 399 = .ok (.invokevirtual 118, 3) := by decide +kernel
theorem dX6_act_402 : decode prog_9_method_9_code 402 = .ok (.iload_n 2, 1) := by decide +kernel
theorem dX6_act_403 : decode prog_9_method_9_code 403 = .ok (.iconst (-1), 1) := by decide +kernel
theorem dX6_act_404 : decode prog_9_method_9_code 404 = .ok (.if_icmp .eq 16, 3) := by decide +kernel
theorem dX6_act_407 : decode prog_9_method_9_code 407 = .ok (.aload_n 0, 1) := by decide +kernel
theorem dX6_act_408 : decode prog_9_method_9_code 408 = .ok (.iload 6, 2) := by decide +kernel
theorem dX6_act_410 : decode prog_9_method_9_code 410 = .ok (.iload 7, 2) := by decide +kernel
theorem dX6_act_412 : decode prog_9_method_9_code 412 = .ok (.iload_n 1, 1) := by decide +kernel
theorem dX6_act_413 : decode prog_9_method_9_code 413 = .ok (.iload_n 2, 1) := by decide +kernel
theorem dX6_act_414 : decode prog_9_method_9_code 414 = .ok (.invokevirtual 118, 3) := by decide +kernel
theorem dX6_act_417 : decode prog_9_method_9_code 417 = .ok (.ifCond .eq 7, 3) := by decide +kernel
theorem dX6_act_420 : decode prog_9_method_9_code 420 = .ok (.iconst 1, 1) := by decide +kernel
theorem dX6_act_421 : decode prog_9_method_9_code 421 = .ok (.goto 4, 3) := by decide +kernel
theorem dX6_act_424 : decode prog_9_method_9_code 424 = .ok (.iconst 0, 1) := by decide +kernel
theorem dX6_act_425 : decode prog_9_method_9_code 425 = .ok (.iand, 1) := by decide +kernel
theorem dX6_act_426 : decode prog_9_method_9_code 426 = .ok (.istore 10, 2) := by decide +kernel
theorem dX6_act_428 : decode prog_9_method_9_code 428 = .ok (.iload 10, 2) := by decide +kernel
theorem dX6_act_430 : decode prog_9_method_9_code 430 = .ok (.ifCond .ne 44, 3) := by decide +kernel
theorem dX6_act_433 : decode prog_9_method_9_code 433 = .ok (.aload_n 0, 1) := by decide +kernel
theorem dX6_act_434 : decode prog_9_method_9_code 434 = .ok (.iload 4, 2) := by decide +kernel
theorem dX6_act_436 : decode prog_9_method_9_code 436 = .ok (.iload 5, 2) := by decide +kernel
theorem dX6_act_438 : decode prog_9_method_9_code 438 = .ok (.iload_n 1, 1) := by decide +kernel
theorem dX6_act_439 : decode prog_9_method_9_code 439 = .ok (.iload_n 2, 1) := by decide +kernel
theorem dX6_act_440 : decode prog_9_method_9_code 440 = .ok (.invokevirtual 122, 3) := by decide +kernel
theorem dX6_act_443 : decode prog_9_method_9_code 443 = .ok (.iload_n 2, 1) := by decide +kernel
theorem dX6_act_444 : decode prog_9_method_9_code 444 = .ok (.iconst (-1), 1) := by decide +kernel
theorem dX6_act_445 : decode prog_9_method_9_code 445 = .ok (.if_icmp .eq 13, 3) := by decide +kernel
theorem dX6_act_448 : decode prog_9_method_9_code 448 = .ok (.aload_n 0, 1) := by decide +kernel
theorem dX6_act_449 : decode prog_9_method_9_code 449 = .ok (.iload 6, 2) := by decide +kernel
theorem dX6_act_451 : decode prog_9_method_9_code 451 = .ok (.iload 7, 2) := by decide +kernel
theorem dX6_act_453 : decode prog_9_method_9_code 453 = .ok (.iload_n 1, 1) := by decide +kernel
theorem dX6_act_454 : decode prog_9_method_9_code 454 = .ok (.iload_n 2, 1) := by decide +kernel
theorem dX6_act_455 : decode prog_9_method_9_code 455 = .ok (.invokevirtual 122, 3) := by decide +kernel
theorem dX6_act_458 : decode prog_9_method_9_code 458 = .ok (.aload_n 0, 1) := by decide +kernel
theorem dX6_act_459 : decode prog_9_method_9_code 459 = .ok (.iload_n 1, 1) := by decide +kernel
theorem dX6_act_460 : decode prog_9_method_9_code 460 = .ok (.invokevirtual 126, 3) := by decide +kernel
theorem dX6_act_463 : decode prog_9_method_9_code 463 = .ok (.iload_n 2, 1) := by decide +kernel
theorem dX6_act_464 : decode prog_9_method_9_code 464 = .ok (.iconst (-1), 1) := by decide +kernel
theorem dX6_act_465 : decode prog_9_method_9_code 465 = .ok (.if_icmp .eq 8, 3) := by decide +kernel
theorem dX6_act_468 : decode prog_9_method_9_code 468 = .ok (.aload_n 0, 1) := by decide +kernel
theorem dX6_act_469 : decode prog_9_method_9_code 469 = .ok (.iload_n 2, 1) := by decide +kernel
theorem dX6_act_470 : decode prog_9_method_9_code 470 = .ok (.invokevirtual 126, 3) := by decide +kernel
theorem dX6_act_473 : decode prog_9_method_9_code 473 = .ok (.return_, 1) := by decide +kernel
theorem dX6_act_474 : decode prog_9_method_9_code 474 = .ok (.aload_n 0, 1) := by decide +kernel
theorem dX6_act_475 : decode prog_9_method_9_code 475 = .ok (.iload_n 1, 1) := by decide +kernel
theorem dX6_act_476 : decode prog_9_method_9_code 476 = .ok (.iload 4, 2) := by decide +kernel
theorem dX6_act_478 : decode prog_9_method_9_code 478 = .ok (.iload 5, 2) := by decide +kernel
theorem dX6_act_480 : decode prog_9_method_9_code 480 = .ok (.iload 8, 2) := by decide +kernel
theorem dX6_act_482 : decode prog_9_method_9_code 482 = .ok (.invokevirtual 129, 3) := by decide +kernel
theorem dX6_act_485 : decode prog_9_method_9_code 485 = .ok (.iload_n 2, 1) := by decide +kernel
theorem dX6_act_486 : decode prog_9_method_9_code 486 = .ok (.iconst (-1), 1) := by decide +kernel
theorem dX6_act_487 : decode prog_9_method_9_code 487 = .ok (.if_icmp .eq 14, 3) := by decide +kernel
theorem dX6_act_490 : decode prog_9_method_9_code 490 = .ok (.aload_n 0, 1) := by decide +kernel
theorem dX6_act_491 : decode prog_9_method_9_code 491 = .ok (.iload_n 2, 1) := by decide +kernel
theorem dX6_act_492 : decode prog_9_method_9_code 492 = .ok (.iload 6, 2) := by decide +kernel
theorem dX6_act_494 : decode prog_9_method_9_code 494 = .ok (.iload 7, 2) := by decide +kernel
theorem dX6_act_496 : decode prog_9_method_9_code 496 = .ok (.iload 8, 2) := by decide +kernel
theorem dX6_act_498 : decode prog_9_method_9_code 498 = .ok (.invokevirtual 129, 3) := by decide +kernel
theorem dX6_act_501 : decode prog_9_method_9_code 501 = .ok (.return_, 1) := by decide +kernel
