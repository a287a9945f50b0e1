theorem f0_0 : am_tab 0 0 = some (.new 43, 3, 9, 11, 1020, .null) := by decide +kernel
theorem f0_3 : am_tab 0 3 = some (.dup, 1, 0, 0, 0, .null) := by decide +kernel
theorem f0_4 : am_tab 0 4 = some (.invokespecial 147, 3, 106, 1, 1022, .int 4) := by decide +kernel
theorem f0_7 : am_tab 0 7 = some (.astore_n 1, 1, 0, 0, 0, .null) := by decide +kernel
theorem f0_8 : am_tab 0 8 = some (.bipush 48, 2, 0, 0, 0, .null) := by decide +kernel
theorem f0_10 : am_tab 0 10 = some (.newarray .int, 2, 0, 0, 1086, .null) := by decide +kernel
theorem f0_12 : am_tab 0 12 = some (.astore_n 2, 1, 0, 0, 0, .null) := by decide +kernel
theorem f0_13 : am_tab 0 13 = some (.bipush 48, 2, 0, 0, 0, .null) := by decide +kernel
theorem f0_15 : am_tab 0 15 = some (.newarray .int, 2, 0, 0, 1086, .null) := by decide +kernel
theorem f0_17 : am_tab 0 17 = some (.astore_n 3, 1, 0, 0, 0, .null) := by decide +kernel
theorem f0_18 : am_tab 0 18 = some (.bipush 48, 2, 0, 0, 0, .null) := by decide +kernel
theorem f0_20 : am_tab 0 20 = some (.newarray .int, 2, 0, 0, 1086, .null) := by decide +kernel
theorem f0_22 : am_tab 0 22 = some (.astore 4, 2, 0, 0, 0, .null) := by decide +kernel
theorem f0_24 : am_tab 0 24 = some (.bipush 48, 2, 0, 0, 0, .null) := by decide +kernel
theorem f0_26 : am_tab 0 26 = some (.newarray .int, 2, 0, 0, 1086, .null) := by decide +kernel
theorem f0_28 : am_tab 0 28 = some (.astore 5, 2, 0, 0, 0, .null) := by decide +kernel
theorem f0_30 : am_tab 0 30 = some (.bipush 24, 2, 0, 0, 0, .null) := by decide +kernel
theorem f0_32 : am_tab 0 32 = some (.newarray .int, 2, 0, 0, 1086, .null) := by decide +kernel
theorem f0_34 : am_tab 0 34 = some (.astore 6, 2, 0, 0, 0, .null) := by decide +kernel
theorem f0_36 : am_tab 0 36 = some (.bipush 48, 2, 0, 0, 0, .null) := by decide +kernel
theorem f0_38 : am_tab 0 38 = some (.newarray .int, 2, 0, 0, 1086, .null) := by decide +kernel
theorem f0_40 : am_tab 0 40 = some (.astore 7, 2, 0, 0, 0, .null) := by decide +kernel
theorem f0_42 : am_tab 0 42 = some (.bipush 6, 2, 0, 0, 0, .null) := by decide +kernel
theorem f0_44 : am_tab 0 44 = some (.newarray .int, 2, 0, 0, 1086, .null) := by decide +kernel
theorem f0_46 : am_tab 0 46 = some (.astore 8, 2, 0, 0, 0, .null) := by decide +kernel
theorem f0_48 : am_tab 0 48 = some (.aload 8, 2, 0, 0, 0, .null) := by decide +kernel
theorem f0_50 : am_tab 0 50 = some (.iconst 2, 1, 0, 0, 0, .null) := by decide +kernel
theorem f0_51 : am_tab 0 51 = some (.iconst 1, 1, 0, 0, 0, .null) := by decide +kernel
theorem f0_52 : am_tab 0 52 = some (.iastore, 1, 0, 0, 0, .null) := by decide +kernel
theorem f0_53 : am_tab 0 53 = some (.iconst 0, 1, 0, 0, 0, .null) := by decide +kernel
theorem f0_54 : am_tab 0 54 = some (.istore 9, 2, 0, 0, 0, .null) := by decide +kernel
theorem f0_56 : am_tab 0 56 = some (.iload 9, 2, 0, 0, 0, .null) := by decide +kernel
theorem f0_58 : am_tab 0 58 = some (.bipush 48, 2, 0, 0, 0, .null) := by decide +kernel
theorem f0_60 : am_tab 0 60 = some (.if_icmp .ge 14, 3, 74, 0, 0, .null) := by decide +kernel
theorem f0_63 : am_tab 0 63 = some (.aload_n 2, 1, 0, 0, 0, .null) := by decide +kernel
theorem f0_64 : am_tab 0 64 = some (.iload 9, 2, 0, 0, 0, .null) := by decide +kernel
theorem f0_66 : am_tab 0 66 = some (.iconst 1, 1, 0, 0, 0, .null) := by decide +kernel
theorem f0_67 : am_tab 0 67 = some (.iastore, 1, 0, 0, 0, .null) := by decide +kernel
theorem f0_68 : am_tab 0 68 = some (.iinc 9 1, 3, 0, 0, 0, .null) := by decide +kernel
theorem f0_71 : am_tab 0 71 = some (.goto (-15), 3, 56, 0, 0, .null) := by decide +kernel
theorem f0_74 : am_tab 0 74 = some (.aload_n 1, 1, 0, 0, 0, .null) := by decide +kernel
theorem f0_75 : am_tab 0 75 = some (.aload_n 2, 1, 0, 0, 0, .null) := by decide +kernel
theorem f0_76 : am_tab 0 76 = some (.aload_n 3, 1, 0, 0, 0, .null) := by decide +kernel
theorem f0_77 : am_tab 0 77 = some (.aload 4, 2, 0, 0, 0, .null) := by decide +kernel
theorem f0_79 : am_tab 0 79 = some (.aload 5, 2, 0, 0, 0, .null) := by decide +kernel
theorem f0_81 : am_tab 0 81 = some (.aload 7, 2, 0, 0, 0, .null) := by decide +kernel
theorem f0_83 : am_tab 0 83 = some (.aload 8, 2, 0, 0, 0, .null) := by decide +kernel
theorem f0_85 : am_tab 0 85 = some (.invokestatic 148, 3, 12, 7, 2028, .int 2) := by decide +kernel
theorem f0_88 : am_tab 0 88 = some (.ifCond .eq 39, 3, 127, 0, 0, .null) := by decide +kernel
theorem f0_91 : am_tab 0 91 = some (.aload_n 1, 1, 0, 0, 0, .null) := by decide +kernel
theorem f0_92 : am_tab 0 92 = some (.aload_n 2, 1, 0, 0, 0, .null) := by decide +kernel
theorem f0_93 : am_tab 0 93 = some (.aload_n 3, 1, 0, 0, 0, .null) := by decide +kernel
theorem f0_94 : am_tab 0 94 = some (.aload 5, 2, 0, 0, 0, .null) := by decide +kernel
theorem f0_96 : am_tab 0 96 = some (.aload 6, 2, 0, 0, 0, .null) := by decide +kernel
theorem f0_98 : am_tab 0 98 = some (.aload 8, 2, 0, 0, 0, .null) := by decide +kernel
theorem f0_100 : am_tab 0 100 = some (.invokestatic 152, 3, 14, 6, 2180, .int 2) := by decide +kernel
theorem f0_103 : am_tab 0 103 = some (.ifCond .eq 24, 3, 127, 0, 0, .null) := by decide +kernel
theorem f0_106 : am_tab 0 106 = some (.aload_n 1, 1, 0, 0, 0, .null) := by decide +kernel
theorem f0_107 : am_tab 0 107 = some (.aload_n 2, 1, 0, 0, 0, .null) := by decide +kernel
theorem f0_108 : am_tab 0 108 = some (.aload_n 3, 1, 0, 0, 0, .null) := by decide +kernel
theorem f0_109 : am_tab 0 109 = some (.aload 4, 2, 0, 0, 0, .null) := by decide +kernel
theorem f0_111 : am_tab 0 111 = some (.aload 5, 2, 0, 0, 0, .null) := by decide +kernel
theorem f0_113 : am_tab 0 113 = some (.aload 6, 2, 0, 0, 0, .null) := by decide +kernel
theorem f0_115 : am_tab 0 115 = some (.aload 8, 2, 0, 0, 0, .null) := by decide +kernel
theorem f0_117 : am_tab 0 117 = some (.invokestatic 155, 3, 15, 7, 3014, .int 2) := by decide +kernel
theorem f0_120 : am_tab 0 120 = some (.ifCond .eq 7, 3, 127, 0, 0, .null) := by decide +kernel
theorem f0_123 : am_tab 0 123 = some (.iconst 1, 1, 0, 0, 0, .null) := by decide +kernel
theorem f0_124 : am_tab 0 124 = some (.goto 4, 3, 128, 0, 0, .null) := by decide +kernel
theorem f0_127 : am_tab 0 127 = some (.iconst 0, 1, 0, 0, 0, .null) := by decide +kernel
theorem f0_128 : am_tab 0 128 = some (.istore 9, 2, 0, 0, 0, .null) := by decide +kernel
theorem f0_130 : am_tab 0 130 = some (.iconst 0, 1, 0, 0, 0, .null) := by decide +kernel
theorem f0_131 : am_tab 0 131 = some (.istore 10, 2, 0, 0, 0, .null) := by decide +kernel
theorem f0_133 : am_tab 0 133 = some (.iload 10, 2, 0, 0, 0, .null) := by decide +kernel
theorem f0_135 : am_tab 0 135 = some (.bipush 36, 2, 0, 0, 0, .null) := by decide +kernel
theorem f0_137 : am_tab 0 137 = some (.if_icmp .ge 213, 3, 350, 0, 0, .null) := by decide +kernel
theorem f0_140 : am_tab 0 140 = some (.iload 9, 2, 0, 0, 0, .null) := by decide +kernel
theorem f0_142 : am_tab 0 142 = some (.ifCond .eq 208, 3, 350, 0, 0, .null) := by decide +kernel
theorem f0_145 : am_tab 0 145 = some (.aload_n 0, 1, 0, 0, 0, .null) := by decide +kernel
theorem f0_146 : am_tab 0 146 = some (.iload 10, 2, 0, 0, 0, .null) := by decide +kernel
theorem f0_148 : am_tab 0 148 = some (.invokestatic 158, 3, 1, 2, 2017, .int 2) := by decide +kernel
theorem f0_151 : am_tab 0 151 = some (.istore 11, 2, 0, 0, 0, .null) := by decide +kernel
theorem f0_153 : am_tab 0 153 = some (.iload 10, 2, 0, 0, 0, .null) := by decide +kernel
theorem f0_155 : am_tab 0 155 = some (.iconst 5, 1, 0, 0, 0, .null) := by decide +kernel
theorem f0_156 : am_tab 0 156 = some (.if_icmp .ge 7, 3, 163, 0, 0, .null) := by decide +kernel
theorem f0_159 : am_tab 0 159 = some (.iconst 3, 1, 0, 0, 0, .null) := by decide +kernel
theorem f0_160 : am_tab 0 160 = some (.goto 47, 3, 207, 0, 0, .null) := by decide +kernel
theorem f0_163 : am_tab 0 163 = some (.iload 10, 2, 0, 0, 0, .null) := by decide +kernel
theorem f0_165 : am_tab 0 165 = some (.bipush 10, 2, 0, 0, 0, .null) := by decide +kernel
theorem f0_167 : am_tab 0 167 = some (.if_icmp .ge 7, 3, 174, 0, 0, .null) := by decide +kernel
theorem f0_170 : am_tab 0 170 = some (.iconst 4, 1, 0, 0, 0, .null) := by decide +kernel
theorem f0_171 : am_tab 0 171 = some (.goto 36, 3, 207, 0, 0, .null) := by decide +kernel
theorem f0_174 : am_tab 0 174 = some (.iload 10, 2, 0, 0, 0, .null) := by decide +kernel
theorem f0_176 : am_tab 0 176 = some (.bipush 15, 2, 0, 0, 0, .null) := by decide +kernel
theorem f0_178 : am_tab 0 178 = some (.if_icmp .ge 7, 3, 185, 0, 0, .null) := by decide +kernel
theorem f0_181 : am_tab 0 181 = some (.iconst 0, 1, 0, 0, 0, .null) := by decide +kernel
theorem f0_182 : am_tab 0 182 = some (.goto 25, 3, 207, 0, 0, .null) := by decide +kernel
theorem f0_185 : am_tab 0 185 = some (.iload 10, 2, 0, 0, 0, .null) := by decide +kernel
theorem f0_187 : am_tab 0 187 = some (.bipush 15, 2, 0, 0, 0, .null) := by decide +kernel
theorem f0_189 : am_tab 0 189 = some (.if_icmp .ne 8, 3, 197, 0, 0, .null) := by decide +kernel
theorem f0_192 : am_tab 0 192 = some (.bipush 8, 2, 0, 0, 0, .null) := by decide +kernel
theorem f0_194 : am_tab 0 194 = some (.goto 13, 3, 207, 0, 0, .null) := by decide +kernel
theorem f0_197 : am_tab 0 197 = some (.iload 11, 2, 0, 0, 0, .null) := by decide +kernel
theorem f0_199 : am_tab 0 199 = some (.bipush 17, 2, 0, 0, 0, .null) := by decide +kernel
theorem f0_201 : am_tab 0 201 = some (.ishr, 1, 0, 0, 0, .null) := by decide +kernel
theorem f0_202 : am_tab 0 202 = some (.bipush 14, 2, 0, 0, 0, .null) := by decide +kernel
theorem f0_204 : am_tab 0 204 = some (.invokestatic 115, 3, 2, 2, 2021, .int 2) := by decide +kernel
theorem f0_207 : am_tab 0 207 = some (.istore 12, 2, 0, 0, 0, .null) := by decide +kernel
theorem f0_209 : am_tab 0 209 = some (.aload_n 1, 1, 0, 0, 0, .null) := by decide +kernel
theorem f0_210 : am_tab 0 210 = some (.aload_n 2, 1, 0, 0, 0, .null) := by decide +kernel
theorem f0_211 : am_tab 0 211 = some (.aload_n 3, 1, 0, 0, 0, .null) := by decide +kernel
theorem f0_212 : am_tab 0 212 = some (.aload 4, 2, 0, 0, 0, .null) := by decide +kernel
theorem f0_214 : am_tab 0 214 = some (.aload 5, 2, 0, 0, 0, .null) := by decide +kernel
theorem f0_216 : am_tab 0 216 = some (.aload 6, 2, 0, 0, 0, .null) := by decide +kernel
theorem f0_218 : am_tab 0 218 = some (.aload 7, 2, 0, 0, 0, .null) := by decide +kernel
theorem f0_220 : am_tab 0 220 = some (.aload 8, 2, 0, 0, 0, .null) := by decide +kernel
theorem f0_222 : am_tab 0 222 = some (.iload 12, 2, 0, 0, 0, .null) := by decide +kernel
theorem f0_224 : am_tab 0 224 = some (.iload 11, 2, 0, 0, 0, .null) := by decide +kernel
theorem f0_226 : am_tab 0 226 = some (.invokestatic 161, 3, 146, 10, 3159, .int 2) := by decide +kernel
theorem f0_229 : am_tab 0 229 = some (.ifCond .eq 39, 3, 268, 0, 0, .null) := by decide +kernel
theorem f0_232 : am_tab 0 232 = some (.aload_n 1, 1, 0, 0, 0, .null) := by decide +kernel
theorem f0_233 : am_tab 0 233 = some (.aload_n 2, 1, 0, 0, 0, .null) := by decide +kernel
theorem f0_234 : am_tab 0 234 = some (.aload_n 3, 1, 0, 0, 0, .null) := by decide +kernel
theorem f0_235 : am_tab 0 235 = some (.aload 4, 2, 0, 0, 0, .null) := by decide +kernel
theorem f0_237 : am_tab 0 237 = some (.aload 5, 2, 0, 0, 0, .null) := by decide +kernel
theorem f0_239 : am_tab 0 239 = some (.aload 7, 2, 0, 0, 0, .null) := by decide +kernel
theorem f0_241 : am_tab 0 241 = some (.aload 8, 2, 0, 0, 0, .null) := by decide +kernel
theorem f0_243 : am_tab 0 243 = some (.invokestatic 148, 3, 12, 7, 2028, .int 2) := by decide +kernel
theorem f0_246 : am_tab 0 246 = some (.ifCond .eq 22, 3, 268, 0, 0, .null) := by decide +kernel
theorem f0_249 : am_tab 0 249 = some (.aload_n 1, 1, 0, 0, 0, .null) := by decide +kernel
theorem f0_250 : am_tab 0 250 = some (.aload_n 2, 1, 0, 0, 0, .null) := by decide +kernel
theorem f0_251 : am_tab 0 251 = some (.aload_n 3, 1, 0, 0, 0, .null) := by decide +kernel
theorem f0_252 : am_tab 0 252 = some (.aload 5, 2, 0, 0, 0, .null) := by decide +kernel
theorem f0_254 : am_tab 0 254 = some (.aload 6, 2, 0, 0, 0, .null) := by decide +kernel
theorem f0_256 : am_tab 0 256 = some (.aload 8, 2, 0, 0, 0, .null) := by decide +kernel
theorem f0_258 : am_tab 0 258 = some (.invokestatic 152, 3, 14, 6, 2180, .int 2) := by decide +kernel
theorem f0_261 : am_tab 0 261 = some (.ifCond .eq 7, 3, 268, 0, 0, .null) := by decide +kernel
theorem f0_264 : am_tab 0 264 = some (.iconst 1, 1, 0, 0, 0, .null) := by decide +kernel
theorem f0_265 : am_tab 0 265 = some (.goto 4, 3, 269, 0, 0, .null) := by decide +kernel
theorem f0_268 : am_tab 0 268 = some (.iconst 0, 1, 0, 0, 0, .null) := by decide +kernel
theorem f0_269 : am_tab 0 269 = some (.istore 9, 2, 0, 0, 0, .null) := by decide +kernel
theorem f0_271 : am_tab 0 271 = some (.iload 9, 2, 0, 0, 0, .null) := by decide +kernel
theorem f0_273 : am_tab 0 273 = some (.ifCond .eq 68, 3, 341, 0, 0, .null) := by decide +kernel
theorem f0_276 : am_tab 0 276 = some (.aload_n 1, 1, 0, 0, 0, .null) := by decide +kernel
theorem f0_277 : am_tab 0 277 = some (.aload_n 2, 1, 0, 0, 0, .null) := by decide +kernel
theorem f0_278 : am_tab 0 278 = some (.aload_n 3, 1, 0, 0, 0, .null) := by decide +kernel
theorem f0_279 : am_tab 0 279 = some (.aload 4, 2, 0, 0, 0, .null) := by decide +kernel
theorem f0_281 : am_tab 0 281 = some (.aload 5, 2, 0, 0, 0, .null) := by decide +kernel
theorem f0_283 : am_tab 0 283 = some (.aload 6, 2, 0, 0, 0, .null) := by decide +kernel
theorem f0_285 : am_tab 0 285 = some (.aload 8, 2, 0, 0, 0, .null) := by decide +kernel
theorem f0_287 : am_tab 0 287 = some (.invokestatic 155, 3, 15, 7, 3014, .int 2) := by decide +kernel
theorem f0_290 : am_tab 0 290 = some (.ifCond .eq 51, 3, 341, 0, 0, .null) := by decide +kernel
theorem f0_293 : am_tab 0 293 = some (.aload_n 1, 1, 0, 0, 0, .null) := by decide +kernel
theorem f0_294 : am_tab 0 294 = some (.aload_n 2, 1, 0, 0, 0, .null) := by decide +kernel
theorem f0_295 : am_tab 0 295 = some (.aload 4, 2, 0, 0, 0, .null) := by decide +kernel
theorem f0_297 : am_tab 0 297 = some (.aload 5, 2, 0, 0, 0, .null) := by decide +kernel
theorem f0_299 : am_tab 0 299 = some (.iload 11, 2, 0, 0, 0, .null) := by decide +kernel
theorem f0_301 : am_tab 0 301 = some (.iconst 5, 1, 0, 0, 0, .null) := by decide +kernel
theorem f0_302 : am_tab 0 302 = some (.ishr, 1, 0, 0, 0, .null) := by decide +kernel
theorem f0_303 : am_tab 0 303 = some (.aload 5, 2, 0, 0, 0, .null) := by decide +kernel
theorem f0_305 : am_tab 0 305 = some (.invokestatic 30, 3, 3, 1, 2025, .int 2) := by decide +kernel
theorem f0_308 : am_tab 0 308 = some (.invokestatic 115, 3, 2, 2, 2021, .int 2) := by decide +kernel
theorem f0_311 : am_tab 0 311 = some (.invokestatic 165, 3, 16, 5, 3084, .int 2) := by decide +kernel
theorem f0_314 : am_tab 0 314 = some (.ifCond .eq 27, 3, 341, 0, 0, .null) := by decide +kernel
theorem f0_317 : am_tab 0 317 = some (.aload_n 1, 1, 0, 0, 0, .null) := by decide +kernel
theorem f0_318 : am_tab 0 318 = some (.aload_n 2, 1, 0, 0, 0, .null) := by decide +kernel
theorem f0_319 : am_tab 0 319 = some (.iconst 1, 1, 0, 0, 0, .null) := by decide +kernel
theorem f0_320 : am_tab 0 320 = some (.iload 11, 2, 0, 0, 0, .null) := by decide +kernel
theorem f0_322 : am_tab 0 322 = some (.bipush 8, 2, 0, 0, 0, .null) := by decide +kernel
theorem f0_324 : am_tab 0 324 = some (.ishr, 1, 0, 0, 0, .null) := by decide +kernel
theorem f0_325 : am_tab 0 325 = some (.bipush 11, 2, 0, 0, 0, .null) := by decide +kernel
theorem f0_327 : am_tab 0 327 = some (.invokestatic 115, 3, 2, 2, 2021, .int 2) := by decide +kernel
theorem f0_330 : am_tab 0 330 = some (.iadd, 1, 0, 0, 0, .null) := by decide +kernel
theorem f0_331 : am_tab 0 331 = some (.invokestatic 169, 3, 19, 3, 3133, .int 2) := by decide +kernel
theorem f0_334 : am_tab 0 334 = some (.ifCond .eq 7, 3, 341, 0, 0, .null) := by decide +kernel
theorem f0_337 : am_tab 0 337 = some (.iconst 1, 1, 0, 0, 0, .null) := by decide +kernel
theorem f0_338 : am_tab 0 338 = some (.goto 4, 3, 342, 0, 0, .null) := by decide +kernel
theorem f0_341 : am_tab 0 341 = some (.iconst 0, 1, 0, 0, 0, .null) := by decide +kernel
theorem f0_342 : am_tab 0 342 = some (.istore 9, 2, 0, 0, 0, .null) := by decide +kernel
theorem f0_344 : am_tab 0 344 = some (.iinc 10 1, 3, 0, 0, 0, .null) := by decide +kernel
theorem f0_347 : am_tab 0 347 = some (.goto (-214), 3, 133, 0, 0, .null) := by decide +kernel
theorem f0_350 : am_tab 0 350 = some (.iload 9, 2, 0, 0, 0, .null) := by decide +kernel
theorem f0_352 : am_tab 0 352 = some (.ireturn, 1, 0, 0, 0, .null) := by decide +kernel
theorem f1_0 : am_tab 1 0 = some (.iload_n 1, 1, 0, 0, 0, .null) := by decide +kernel
theorem f1_1 : am_tab 1 1 = some (.aload_n 0, 1, 0, 0, 0, .null) := by decide +kernel
theorem f1_2 : am_tab 1 2 = some (.arraylength, 1, 0, 0, 0, .null) := by decide +kernel
theorem f1_3 : am_tab 1 3 = some (.if_icmp .ge 9, 3, 12, 0, 0, .null) := by decide +kernel
theorem f1_6 : am_tab 1 6 = some (.aload_n 0, 1, 0, 0, 0, .null) := by decide +kernel
theorem f1_7 : am_tab 1 7 = some (.iload_n 1, 1, 0, 0, 0, .null) := by decide +kernel
theorem f1_8 : am_tab 1 8 = some (.iaload, 1, 0, 0, 0, .null) := by decide +kernel
theorem f1_9 : am_tab 1 9 = some (.goto 9, 3, 18, 0, 0, .null) := by decide +kernel
theorem f1_12 : am_tab 1 12 = some (.ldc 7, 2, 0, 0, 2020, .int (668265263)) := by decide +kernel
theorem f1_14 : am_tab 1 14 = some (.iload_n 1, 1, 0, 0, 0, .null) := by decide +kernel
theorem f1_15 : am_tab 1 15 = some (.iconst 1, 1, 0, 0, 0, .null) := by decide +kernel
theorem f1_16 : am_tab 1 16 = some (.iadd, 1, 0, 0, 0, .null) := by decide +kernel
theorem f1_17 : am_tab 1 17 = some (.imul, 1, 0, 0, 0, .null) := by decide +kernel
theorem f1_18 : am_tab 1 18 = some (.ireturn, 1, 0, 0, 0, .null) := by decide +kernel
theorem f2_0 : am_tab 2 0 = some (.iload_n 0, 1, 0, 0, 0, .null) := by decide +kernel
theorem f2_1 : am_tab 2 1 = some (.ldc 8, 2, 0, 0, 2024, .int (2147483647)) := by decide +kernel
theorem f2_3 : am_tab 2 3 = some (.iand, 1, 0, 0, 0, .null) := by decide +kernel
theorem f2_4 : am_tab 2 4 = some (.iload_n 1, 1, 0, 0, 0, .null) := by decide +kernel
theorem f2_5 : am_tab 2 5 = some (.irem, 1, 0, 0, 0, .null) := by decide +kernel
theorem f2_6 : am_tab 2 6 = some (.ireturn, 1, 0, 0, 0, .null) := by decide +kernel
theorem f3_0 : am_tab 3 0 = some (.iconst 1, 1, 0, 0, 0, .null) := by decide +kernel
theorem f3_1 : am_tab 3 1 = some (.istore_n 1, 1, 0, 0, 0, .null) := by decide +kernel
theorem f3_2 : am_tab 3 2 = some (.iconst 1, 1, 0, 0, 0, .null) := by decide +kernel
theorem f3_3 : am_tab 3 3 = some (.istore_n 2, 1, 0, 0, 0, .null) := by decide +kernel
theorem f3_4 : am_tab 3 4 = some (.iload_n 2, 1, 0, 0, 0, .null) := by decide +kernel
theorem f3_5 : am_tab 3 5 = some (.bipush 48, 2, 0, 0, 0, .null) := by decide +kernel
theorem f3_7 : am_tab 3 7 = some (.if_icmp .ge 15, 3, 22, 0, 0, .null) := by decide +kernel
theorem f3_10 : am_tab 3 10 = some (.iload_n 1, 1, 0, 0, 0, .null) := by decide +kernel
theorem f3_11 : am_tab 3 11 = some (.aload_n 0, 1, 0, 0, 0, .null) := by decide +kernel
theorem f3_12 : am_tab 3 12 = some (.iload_n 2, 1, 0, 0, 0, .null) := by decide +kernel
theorem f3_13 : am_tab 3 13 = some (.iaload, 1, 0, 0, 0, .null) := by decide +kernel
theorem f3_14 : am_tab 3 14 = some (.iadd, 1, 0, 0, 0, .null) := by decide +kernel
theorem f3_15 : am_tab 3 15 = some (.istore_n 1, 1, 0, 0, 0, .null) := by decide +kernel
theorem f3_16 : am_tab 3 16 = some (.iinc 2 1, 3, 0, 0, 0, .null) := by decide +kernel
theorem f3_19 : am_tab 3 19 = some (.goto (-15), 3, 4, 0, 0, .null) := by decide +kernel
theorem f3_22 : am_tab 3 22 = some (.iload_n 1, 1, 0, 0, 0, .null) := by decide +kernel
theorem f3_23 : am_tab 3 23 = some (.ireturn, 1, 0, 0, 0, .null) := by decide +kernel
theorem f4_0 : am_tab 4 0 = some (.iload_n 1, 1, 0, 0, 0, .null) := by decide +kernel
theorem f4_1 : am_tab 4 1 = some (.ifCond .ne 7, 3, 8, 0, 0, .null) := by decide +kernel
theorem f4_4 : am_tab 4 4 = some (.iconst 0, 1, 0, 0, 0, .null) := by decide +kernel
theorem f4_5 : am_tab 4 5 = some (.goto 5, 3, 10, 0, 0, .null) := by decide +kernel
theorem f4_8 : am_tab 4 8 = some (.bipush 48, 2, 0, 0, 0, .null) := by decide +kernel
theorem f4_10 : am_tab 4 10 = some (.istore_n 2, 1, 0, 0, 0, .null) := by decide +kernel
theorem f4_11 : am_tab 4 11 = some (.iconst 0, 1, 0, 0, 0, .null) := by decide +kernel
theorem f4_12 : am_tab 4 12 = some (.istore_n 3, 1, 0, 0, 0, .null) := by decide +kernel
theorem f4_13 : am_tab 4 13 = some (.iconst 1, 1, 0, 0, 0, .null) := by decide +kernel
theorem f4_14 : am_tab 4 14 = some (.istore 4, 2, 0, 0, 0, .null) := by decide +kernel
theorem f4_16 : am_tab 4 16 = some (.iload 4, 2, 0, 0, 0, .null) := by decide +kernel
theorem f4_18 : am_tab 4 18 = some (.bipush 48, 2, 0, 0, 0, .null) := by decide +kernel
theorem f4_20 : am_tab 4 20 = some (.if_icmp .ge 36, 3, 56, 0, 0, .null) := by decide +kernel
theorem f4_23 : am_tab 4 23 = some (.iload_n 3, 1, 0, 0, 0, .null) := by decide +kernel
theorem f4_24 : am_tab 4 24 = some (.aload_n 0, 1, 0, 0, 0, .null) := by decide +kernel
theorem f4_25 : am_tab 4 25 = some (.iload 4, 2, 0, 0, 0, .null) := by decide +kernel
theorem f4_27 : am_tab 4 27 = some (.iaload, 1, 0, 0, 0, .null) := by decide +kernel
theorem f4_28 : am_tab 4 28 = some (.iadd, 1, 0, 0, 0, .null) := by decide +kernel
theorem f4_29 : am_tab 4 29 = some (.istore_n 3, 1, 0, 0, 0, .null) := by decide +kernel
theorem f4_30 : am_tab 4 30 = some (.aload_n 0, 1, 0, 0, 0, .null) := by decide +kernel
theorem f4_31 : am_tab 4 31 = some (.iload 4, 2, 0, 0, 0, .null) := by decide +kernel
theorem f4_33 : am_tab 4 33 = some (.iaload, 1, 0, 0, 0, .null) := by decide +kernel
theorem f4_34 : am_tab 4 34 = some (.iconst 1, 1, 0, 0, 0, .null) := by decide +kernel
theorem f4_35 : am_tab 4 35 = some (.if_icmp .ne 13, 3, 48, 0, 0, .null) := by decide +kernel
theorem f4_38 : am_tab 4 38 = some (.iload_n 3, 1, 0, 0, 0, .null) := by decide +kernel
theorem f4_39 : am_tab 4 39 = some (.iload_n 1, 1, 0, 0, 0, .null) := by decide +kernel
theorem f4_40 : am_tab 4 40 = some (.if_icmp .ne 8, 3, 48, 0, 0, .null) := by decide +kernel
theorem f4_43 : am_tab 4 43 = some (.iload 4, 2, 0, 0, 0, .null) := by decide +kernel
theorem f4_45 : am_tab 4 45 = some (.goto 4, 3, 49, 0, 0, .null) := by decide +kernel
theorem f4_48 : am_tab 4 48 = some (.iload_n 2, 1, 0, 0, 0, .null) := by decide +kernel
theorem f4_49 : am_tab 4 49 = some (.istore_n 2, 1, 0, 0, 0, .null) := by decide +kernel
theorem f4_50 : am_tab 4 50 = some (.iinc 4 1, 3, 0, 0, 0, .null) := by decide +kernel
theorem f4_53 : am_tab 4 53 = some (.goto (-37), 3, 16, 0, 0, .null) := by decide +kernel
theorem f4_56 : am_tab 4 56 = some (.iload_n 2, 1, 0, 0, 0, .null) := by decide +kernel
theorem f4_57 : am_tab 4 57 = some (.ireturn, 1, 0, 0, 0, .null) := by decide +kernel
theorem f5_0 : am_tab 5 0 = some (.iconst 0, 1, 0, 0, 0, .null) := by decide +kernel
theorem f5_1 : am_tab 5 1 = some (.istore_n 3, 1, 0, 0, 0, .null) := by decide +kernel
theorem f5_2 : am_tab 5 2 = some (.iload_n 1, 1, 0, 0, 0, .null) := by decide +kernel
theorem f5_3 : am_tab 5 3 = some (.istore 4, 2, 0, 0, 0, .null) := by decide +kernel
theorem f5_5 : am_tab 5 5 = some (.iload 4, 2, 0, 0, 0, .null) := by decide +kernel
theorem f5_7 : am_tab 5 7 = some (.iload_n 2, 1, 0, 0, 0, .null) := by decide +kernel
theorem f5_8 : am_tab 5 8 = some (.if_icmp .ge 16, 3, 24, 0, 0, .null) := by decide +kernel
theorem f5_11 : am_tab 5 11 = some (.iload_n 3, 1, 0, 0, 0, .null) := by decide +kernel
theorem f5_12 : am_tab 5 12 = some (.aload_n 0, 1, 0, 0, 0, .null) := by decide +kernel
theorem f5_13 : am_tab 5 13 = some (.iload 4, 2, 0, 0, 0, .null) := by decide +kernel
theorem f5_15 : am_tab 5 15 = some (.iaload, 1, 0, 0, 0, .null) := by decide +kernel
theorem f5_16 : am_tab 5 16 = some (.iadd, 1, 0, 0, 0, .null) := by decide +kernel
theorem f5_17 : am_tab 5 17 = some (.istore_n 3, 1, 0, 0, 0, .null) := by decide +kernel
theorem f5_18 : am_tab 5 18 = some (.iinc 4 1, 3, 0, 0, 0, .null) := by decide +kernel
theorem f5_21 : am_tab 5 21 = some (.goto (-16), 3, 5, 0, 0, .null) := by decide +kernel
theorem f5_24 : am_tab 5 24 = some (.iload_n 3, 1, 0, 0, 0, .null) := by decide +kernel
theorem f5_25 : am_tab 5 25 = some (.ireturn, 1, 0, 0, 0, .null) := by decide +kernel
theorem f6_0 : am_tab 6 0 = some (.iconst 0, 1, 0, 0, 0, .null) := by decide +kernel
theorem f6_1 : am_tab 6 1 = some (.istore 4, 2, 0, 0, 0, .null) := by decide +kernel
theorem f6_3 : am_tab 6 3 = some (.iload_n 2, 1, 0, 0, 0, .null) := by decide +kernel
theorem f6_4 : am_tab 6 4 = some (.istore 5, 2, 0, 0, 0, .null) := by decide +kernel
theorem f6_6 : am_tab 6 6 = some (.iload 5, 2, 0, 0, 0, .null) := by decide +kernel
theorem f6_8 : am_tab 6 8 = some (.iload_n 3, 1, 0, 0, 0, .null) := by decide +kernel
theorem f6_9 : am_tab 6 9 = some (.if_icmp .ge 23, 3, 32, 0, 0, .null) := by decide +kernel
theorem f6_12 : am_tab 6 12 = some (.iload 4, 2, 0, 0, 0, .null) := by decide +kernel
theorem f6_14 : am_tab 6 14 = some (.aload_n 0, 1, 0, 0, 0, .null) := by decide +kernel
theorem f6_15 : am_tab 6 15 = some (.iload 5, 2, 0, 0, 0, .null) := by decide +kernel
theorem f6_17 : am_tab 6 17 = some (.iaload, 1, 0, 0, 0, .null) := by decide +kernel
theorem f6_18 : am_tab 6 18 = some (.aload_n 1, 1, 0, 0, 0, .null) := by decide +kernel
theorem f6_19 : am_tab 6 19 = some (.iload 5, 2, 0, 0, 0, .null) := by decide +kernel
theorem f6_21 : am_tab 6 21 = some (.iaload, 1, 0, 0, 0, .null) := by decide +kernel
theorem f6_22 : am_tab 6 22 = some (.imul, 1, 0, 0, 0, .null) := by decide +kernel
theorem f6_23 : am_tab 6 23 = some (.iadd, 1, 0, 0, 0, .null) := by decide +kernel
theorem f6_24 : am_tab 6 24 = some (.istore 4, 2, 0, 0, 0, .null) := by decide +kernel
theorem f6_26 : am_tab 6 26 = some (.iinc 5 1, 3, 0, 0, 0, .null) := by decide +kernel
theorem f6_29 : am_tab 6 29 = some (.goto (-23), 3, 6, 0, 0, .null) := by decide +kernel
theorem f6_32 : am_tab 6 32 = some (.iload 4, 2, 0, 0, 0, .null) := by decide +kernel
theorem f6_34 : am_tab 6 34 = some (.ireturn, 1, 0, 0, 0, .null) := by decide +kernel
theorem f7_0 : am_tab 7 0 = some (.iload_n 3, 1, 0, 0, 0, .null) := by decide +kernel
theorem f7_1 : am_tab 7 1 = some (.ifCond .ne 7, 3, 8, 0, 0, .null) := by decide +kernel
theorem f7_4 : am_tab 7 4 = some (.iconst 1, 1, 0, 0, 0, .null) := by decide +kernel
theorem f7_5 : am_tab 7 5 = some (.goto 19, 3, 24, 0, 0, .null) := by decide +kernel
theorem f7_8 : am_tab 7 8 = some (.iload_n 3, 1, 0, 0, 0, .null) := by decide +kernel
theorem f7_9 : am_tab 7 9 = some (.iconst 1, 1, 0, 0, 0, .null) := by decide +kernel
theorem f7_10 : am_tab 7 10 = some (.if_icmp .ne 9, 3, 19, 0, 0, .null) := by decide +kernel
theorem f7_13 : am_tab 7 13 = some (.aload_n 0, 1, 0, 0, 0, .null) := by decide +kernel
theorem f7_14 : am_tab 7 14 = some (.iload_n 2, 1, 0, 0, 0, .null) := by decide +kernel
theorem f7_15 : am_tab 7 15 = some (.iaload, 1, 0, 0, 0, .null) := by decide +kernel
theorem f7_16 : am_tab 7 16 = some (.goto 8, 3, 24, 0, 0, .null) := by decide +kernel
theorem f7_19 : am_tab 7 19 = some (.aload_n 1, 1, 0, 0, 0, .null) := by decide +kernel
theorem f7_20 : am_tab 7 20 = some (.iload_n 2, 1, 0, 0, 0, .null) := by decide +kernel
theorem f7_21 : am_tab 7 21 = some (.iaload, 1, 0, 0, 0, .null) := by decide +kernel
theorem f7_22 : am_tab 7 22 = some (.iconst 1, 1, 0, 0, 0, .null) := by decide +kernel
theorem f7_23 : am_tab 7 23 = some (.iadd, 1, 0, 0, 0, .null) := by decide +kernel
theorem f7_24 : am_tab 7 24 = some (.ireturn, 1, 0, 0, 0, .null) := by decide +kernel
theorem f8_0 : am_tab 8 0 = some (.iconst 0, 1, 0, 0, 0, .null) := by decide +kernel
theorem f8_1 : am_tab 8 1 = some (.istore 5, 2, 0, 0, 0, .null) := by decide +kernel
theorem f8_3 : am_tab 8 3 = some (.iload_n 2, 1, 0, 0, 0, .null) := by decide +kernel
theorem f8_4 : am_tab 8 4 = some (.istore 6, 2, 0, 0, 0, .null) := by decide +kernel
theorem f8_6 : am_tab 8 6 = some (.iload 6, 2, 0, 0, 0, .null) := by decide +kernel
theorem f8_8 : am_tab 8 8 = some (.iload_n 3, 1, 0, 0, 0, .null) := by decide +kernel
theorem f8_9 : am_tab 8 9 = some (.if_icmp .ge 23, 3, 32, 0, 0, .null) := by decide +kernel
theorem f8_12 : am_tab 8 12 = some (.iload 5, 2, 0, 0, 0, .null) := by decide +kernel
theorem f8_14 : am_tab 8 14 = some (.aload_n 0, 1, 0, 0, 0, .null) := by decide +kernel
theorem f8_15 : am_tab 8 15 = some (.aload_n 1, 1, 0, 0, 0, .null) := by decide +kernel
theorem f8_16 : am_tab 8 16 = some (.iload 6, 2, 0, 0, 0, .null) := by decide +kernel
theorem f8_18 : am_tab 8 18 = some (.iload 4, 2, 0, 0, 0, .null) := by decide +kernel
theorem f8_20 : am_tab 8 20 = some (.invokestatic 9, 3, 7, 4, 3026, .int 2) := by decide +kernel
theorem f8_23 : am_tab 8 23 = some (.iadd, 1, 0, 0, 0, .null) := by decide +kernel
theorem f8_24 : am_tab 8 24 = some (.istore 5, 2, 0, 0, 0, .null) := by decide +kernel
theorem f8_26 : am_tab 8 26 = some (.iinc 6 1, 3, 0, 0, 0, .null) := by decide +kernel
theorem f8_29 : am_tab 8 29 = some (.goto (-23), 3, 6, 0, 0, .null) := by decide +kernel
theorem f8_32 : am_tab 8 32 = some (.iconst 0, 1, 0, 0, 0, .null) := by decide +kernel
theorem f8_33 : am_tab 8 33 = some (.istore 6, 2, 0, 0, 0, .null) := by decide +kernel
theorem f8_35 : am_tab 8 35 = some (.iload_n 3, 1, 0, 0, 0, .null) := by decide +kernel
theorem f8_36 : am_tab 8 36 = some (.istore 7, 2, 0, 0, 0, .null) := by decide +kernel
theorem f8_38 : am_tab 8 38 = some (.iconst 0, 1, 0, 0, 0, .null) := by decide +kernel
theorem f8_39 : am_tab 8 39 = some (.istore 8, 2, 0, 0, 0, .null) := by decide +kernel
theorem f8_41 : am_tab 8 41 = some (.iload_n 2, 1, 0, 0, 0, .null) := by decide +kernel
theorem f8_42 : am_tab 8 42 = some (.iconst 1, 1, 0, 0, 0, .null) := by decide +kernel
theorem f8_43 : am_tab 8 43 = some (.iadd, 1, 0, 0, 0, .null) := by decide +kernel
theorem f8_44 : am_tab 8 44 = some (.istore 9, 2, 0, 0, 0, .null) := by decide +kernel
theorem f8_46 : am_tab 8 46 = some (.iload 9, 2, 0, 0, 0, .null) := by decide +kernel
theorem f8_48 : am_tab 8 48 = some (.iload_n 3, 1, 0, 0, 0, .null) := by decide +kernel
theorem f8_49 : am_tab 8 49 = some (.if_icmp .ge 84, 3, 133, 0, 0, .null) := by decide +kernel
theorem f8_52 : am_tab 8 52 = some (.iload 6, 2, 0, 0, 0, .null) := by decide +kernel
theorem f8_54 : am_tab 8 54 = some (.aload_n 0, 1, 0, 0, 0, .null) := by decide +kernel
theorem f8_55 : am_tab 8 55 = some (.aload_n 1, 1, 0, 0, 0, .null) := by decide +kernel
theorem f8_56 : am_tab 8 56 = some (.iload 9, 2, 0, 0, 0, .null) := by decide +kernel
theorem f8_58 : am_tab 8 58 = some (.iconst 1, 1, 0, 0, 0, .null) := by decide +kernel
theorem f8_59 : am_tab 8 59 = some (.isub, 1, 0, 0, 0, .null) := by decide +kernel
theorem f8_60 : am_tab 8 60 = some (.iload 4, 2, 0, 0, 0, .null) := by decide +kernel
theorem f8_62 : am_tab 8 62 = some (.invokestatic 9, 3, 7, 4, 3026, .int 2) := by decide +kernel
theorem f8_65 : am_tab 8 65 = some (.iadd, 1, 0, 0, 0, .null) := by decide +kernel
theorem f8_66 : am_tab 8 66 = some (.istore 6, 2, 0, 0, 0, .null) := by decide +kernel
theorem f8_68 : am_tab 8 68 = some (.iload 5, 2, 0, 0, 0, .null) := by decide +kernel
theorem f8_70 : am_tab 8 70 = some (.aload_n 0, 1, 0, 0, 0, .null) := by decide +kernel
theorem f8_71 : am_tab 8 71 = some (.aload_n 1, 1, 0, 0, 0, .null) := by decide +kernel
theorem f8_72 : am_tab 8 72 = some (.iload 9, 2, 0, 0, 0, .null) := by decide +kernel
theorem f8_74 : am_tab 8 74 = some (.iconst 1, 1, 0, 0, 0, .null) := by decide +kernel
theorem f8_75 : am_tab 8 75 = some (.isub, 1, 0, 0, 0, .null) := by decide +kernel
theorem f8_76 : am_tab 8 76 = some (.iload 4, 2, 0, 0, 0, .null) := by decide +kernel
theorem f8_78 : am_tab 8 78 = some (.invokestatic 9, 3, 7, 4, 3026, .int 2) := by decide +kernel
theorem f8_81 : am_tab 8 81 = some (.isub, 1, 0, 0, 0, .null) := by decide +kernel
theorem f8_82 : am_tab 8 82 = some (.istore 5, 2, 0, 0, 0, .null) := by decide +kernel
theorem f8_84 : am_tab 8 84 = some (.iload 6, 2, 0, 0, 0, .null) := by decide +kernel
theorem f8_86 : am_tab 8 86 = some (.iload 5, 2, 0, 0, 0, .null) := by decide +kernel
theorem f8_88 : am_tab 8 88 = some (.if_icmp .le 11, 3, 99, 0, 0, .null) := by decide +kernel
theorem f8_91 : am_tab 8 91 = some (.iload 6, 2, 0, 0, 0, .null) := by decide +kernel
theorem f8_93 : am_tab 8 93 = some (.iload 5, 2, 0, 0, 0, .null) := by decide +kernel
theorem f8_95 : am_tab 8 95 = some (.isub, 1, 0, 0, 0, .null) := by decide +kernel
theorem f8_96 : am_tab 8 96 = some (.goto 8, 3, 104, 0, 0, .null) := by decide +kernel
theorem f8_99 : am_tab 8 99 = some (.iload 5, 2, 0, 0, 0, .null) := by decide +kernel
theorem f8_101 : am_tab 8 101 = some (.iload 6, 2, 0, 0, 0, .null) := by decide +kernel
theorem f8_103 : am_tab 8 103 = some (.isub, 1, 0, 0, 0, .null) := by decide +kernel
theorem f8_104 : am_tab 8 104 = some (.istore 10, 2, 0, 0, 0, .null) := by decide +kernel
theorem f8_106 : am_tab 8 106 = some (.iload 7, 2, 0, 0, 0, .null) := by decide +kernel
theorem f8_108 : am_tab 8 108 = some (.iload_n 3, 1, 0, 0, 0, .null) := by decide +kernel
theorem f8_109 : am_tab 8 109 = some (.if_icmp .eq 10, 3, 119, 0, 0, .null) := by decide +kernel
theorem f8_112 : am_tab 8 112 = some (.iload 10, 2, 0, 0, 0, .null) := by decide +kernel
theorem f8_114 : am_tab 8 114 = some (.iload 8, 2, 0, 0, 0, .null) := by decide +kernel
theorem f8_116 : am_tab 8 116 = some (.if_icmp .ge 11, 3, 127, 0, 0, .null) := by decide +kernel
theorem f8_119 : am_tab 8 119 = some (.iload 9, 2, 0, 0, 0, .null) := by decide +kernel
theorem f8_121 : am_tab 8 121 = some (.istore 7, 2, 0, 0, 0, .null) := by decide +kernel
theorem f8_123 : am_tab 8 123 = some (.iload 10, 2, 0, 0, 0, .null) := by decide +kernel
theorem f8_125 : am_tab 8 125 = some (.istore 8, 2, 0, 0, 0, .null) := by decide +kernel
theorem f8_127 : am_tab 8 127 = some (.iinc 9 1, 3, 0, 0, 0, .null) := by decide +kernel
theorem f8_130 : am_tab 8 130 = some (.goto (-84), 3, 46, 0, 0, .null) := by decide +kernel
theorem f8_133 : am_tab 8 133 = some (.iload 7, 2, 0, 0, 0, .null) := by decide +kernel
theorem f8_135 : am_tab 8 135 = some (.ireturn, 1, 0, 0, 0, .null) := by decide +kernel
theorem f9_0 : am_tab 9 0 = some (.iconst 0, 1, 0, 0, 0, .null) := by decide +kernel
theorem f9_1 : am_tab 9 1 = some (.istore 13, 2, 0, 0, 0, .null) := by decide +kernel
theorem f9_3 : am_tab 9 3 = some (.iload 5, 2, 0, 0, 0, .null) := by decide +kernel
theorem f9_5 : am_tab 9 5 = some (.ifCond .le 7, 3, 12, 0, 0, .null) := by decide +kernel
theorem f9_8 : am_tab 9 8 = some (.iconst 1, 1, 0, 0, 0, .null) := by decide +kernel
theorem f9_9 : am_tab 9 9 = some (.goto 4, 3, 13, 0, 0, .null) := by decide +kernel
theorem f9_12 : am_tab 9 12 = some (.iconst 0, 1, 0, 0, 0, .null) := by decide +kernel
theorem f9_13 : am_tab 9 13 = some (.istore 14, 2, 0, 0, 0, .null) := by decide +kernel
theorem f9_15 : am_tab 9 15 = some (.aload 8, 2, 0, 0, 0, .null) := by decide +kernel
theorem f9_17 : am_tab 9 17 = some (.iconst 0, 1, 0, 0, 0, .null) := by decide +kernel
theorem f9_18 : am_tab 9 18 = some (.iload_n 3, 1, 0, 0, 0, .null) := by decide +kernel
theorem f9_19 : am_tab 9 19 = some (.iastore, 1, 0, 0, 0, .null) := by decide +kernel
theorem f9_20 : am_tab 9 20 = some (.aload 9, 2, 0, 0, 0, .null) := by decide +kernel
theorem f9_22 : am_tab 9 22 = some (.iconst 0, 1, 0, 0, 0, .null) := by decide +kernel
theorem f9_23 : am_tab 9 23 = some (.iload 4, 2, 0, 0, 0, .null) := by decide +kernel
theorem f9_25 : am_tab 9 25 = some (.iastore, 1, 0, 0, 0, .null) := by decide +kernel
theorem f9_26 : am_tab 9 26 = some (.aload 10, 2, 0, 0, 0, .null) := by decide +kernel
theorem f9_28 : am_tab 9 28 = some (.iconst 0, 1, 0, 0, 0, .null) := by decide +kernel
theorem f9_29 : am_tab 9 29 = some (.iload 5, 2, 0, 0, 0, .null) := by decide +kernel
theorem f9_31 : am_tab 9 31 = some (.iastore, 1, 0, 0, 0, .null) := by decide +kernel
theorem f9_32 : am_tab 9 32 = some (.iload 14, 2, 0, 0, 0, .null) := by decide +kernel
theorem f9_34 : am_tab 9 34 = some (.ifCond .le 291, 3, 325, 0, 0, .null) := by decide +kernel
theorem f9_37 : am_tab 9 37 = some (.iconst 0, 1, 0, 0, 0, .null) := by decide +kernel
theorem f9_38 : am_tab 9 38 = some (.istore 15, 2, 0, 0, 0, .null) := by decide +kernel
theorem f9_40 : am_tab 9 40 = some (.iconst 0, 1, 0, 0, 0, .null) := by decide +kernel
theorem f9_41 : am_tab 9 41 = some (.istore 16, 2, 0, 0, 0, .null) := by decide +kernel
theorem f9_43 : am_tab 9 43 = some (.iload 16, 2, 0, 0, 0, .null) := by decide +kernel
theorem f9_45 : am_tab 9 45 = some (.iload 14, 2, 0, 0, 0, .null) := by decide +kernel
theorem f9_47 : am_tab 9 47 = some (.if_icmp .ge 254, 3, 301, 0, 0, .null) := by decide +kernel
theorem f9_50 : am_tab 9 50 = some (.aload 8, 2, 0, 0, 0, .null) := by decide +kernel
theorem f9_52 : am_tab 9 52 = some (.iload 16, 2, 0, 0, 0, .null) := by decide +kernel
theorem f9_54 : am_tab 9 54 = some (.iaload, 1, 0, 0, 0, .null) := by decide +kernel
theorem f9_55 : am_tab 9 55 = some (.istore 17, 2, 0, 0, 0, .null) := by decide +kernel
theorem f9_57 : am_tab 9 57 = some (.aload 9, 2, 0, 0, 0, .null) := by decide +kernel
theorem f9_59 : am_tab 9 59 = some (.iload 16, 2, 0, 0, 0, .null) := by decide +kernel
theorem f9_61 : am_tab 9 61 = some (.iaload, 1, 0, 0, 0, .null) := by decide +kernel
theorem f9_62 : am_tab 9 62 = some (.istore 18, 2, 0, 0, 0, .null) := by decide +kernel
theorem f9_64 : am_tab 9 64 = some (.aload 10, 2, 0, 0, 0, .null) := by decide +kernel
theorem f9_66 : am_tab 9 66 = some (.iload 16, 2, 0, 0, 0, .null) := by decide +kernel
theorem f9_68 : am_tab 9 68 = some (.iaload, 1, 0, 0, 0, .null) := by decide +kernel
theorem f9_69 : am_tab 9 69 = some (.aload_n 0, 1, 0, 0, 0, .null) := by decide +kernel
theorem f9_70 : am_tab 9 70 = some (.iload 17, 2, 0, 0, 0, .null) := by decide +kernel
theorem f9_72 : am_tab 9 72 = some (.iload 18, 2, 0, 0, 0, .null) := by decide +kernel
theorem f9_74 : am_tab 9 74 = some (.invokestatic 15, 3, 5, 3, 2174, .int 2) := by decide +kernel
theorem f9_77 : am_tab 9 77 = some (.if_icmp .ne 7, 3, 84, 0, 0, .null) := by decide +kernel
theorem f9_80 : am_tab 9 80 = some (.iconst 1, 1, 0, 0, 0, .null) := by decide +kernel
theorem f9_81 : am_tab 9 81 = some (.goto 4, 3, 85, 0, 0, .null) := by decide +kernel
theorem f9_84 : am_tab 9 84 = some (.iconst 0, 1, 0, 0, 0, .null) := by decide +kernel
theorem f9_85 : am_tab 9 85 = some (.istore 19, 2, 0, 0, 0, .null) := by decide +kernel
theorem f9_87 : am_tab 9 87 = some (.iload 13, 2, 0, 0, 0, .null) := by decide +kernel
theorem f9_89 : am_tab 9 89 = some (.iload 19, 2, 0, 0, 0, .null) := by decide +kernel
theorem f9_91 : am_tab 9 91 = some (.ifCond .eq 7, 3, 98, 0, 0, .null) := by decide +kernel
theorem f9_94 : am_tab 9 94 = some (.iconst 0, 1, 0, 0, 0, .null) := by decide +kernel
theorem f9_95 : am_tab 9 95 = some (.goto 4, 3, 99, 0, 0, .null) := by decide +kernel
theorem f9_98 : am_tab 9 98 = some (.iconst 1, 1, 0, 0, 0, .null) := by decide +kernel
theorem f9_99 : am_tab 9 99 = some (.iadd, 1, 0, 0, 0, .null) := by decide +kernel
theorem f9_100 : am_tab 9 100 = some (.istore 13, 2, 0, 0, 0, .null) := by decide +kernel
theorem f9_102 : am_tab 9 102 = some (.iload 17, 2, 0, 0, 0, .null) := by decide +kernel
theorem f9_104 : am_tab 9 104 = some (.istore 20, 2, 0, 0, 0, .null) := by decide +kernel
theorem f9_106 : am_tab 9 106 = some (.iload 20, 2, 0, 0, 0, .null) := by decide +kernel
theorem f9_108 : am_tab 9 108 = some (.iload 18, 2, 0, 0, 0, .null) := by decide +kernel
theorem f9_110 : am_tab 9 110 = some (.if_icmp .ge 46, 3, 156, 0, 0, .null) := by decide +kernel
theorem f9_113 : am_tab 9 113 = some (.iload 19, 2, 0, 0, 0, .null) := by decide +kernel
theorem f9_115 : am_tab 9 115 = some (.ifCond .ne 12, 3, 127, 0, 0, .null) := by decide +kernel
theorem f9_118 : am_tab 9 118 = some (.iload 18, 2, 0, 0, 0, .null) := by decide +kernel
theorem f9_120 : am_tab 9 120 = some (.iload 17, 2, 0, 0, 0, .null) := by decide +kernel
theorem f9_122 : am_tab 9 122 = some (.iconst 1, 1, 0, 0, 0, .null) := by decide +kernel
theorem f9_123 : am_tab 9 123 = some (.iadd, 1, 0, 0, 0, .null) := by decide +kernel
theorem f9_124 : am_tab 9 124 = some (.if_icmp .ne 32, 3, 156, 0, 0, .null) := by decide +kernel
theorem f9_127 : am_tab 9 127 = some (.aload 7, 2, 0, 0, 0, .null) := by decide +kernel
theorem f9_129 : am_tab 9 129 = some (.iload 20, 2, 0, 0, 0, .null) := by decide +kernel
theorem f9_131 : am_tab 9 131 = some (.iload 19, 2, 0, 0, 0, .null) := by decide +kernel
theorem f9_133 : am_tab 9 133 = some (.ifCond .ne 11, 3, 144, 0, 0, .null) := by decide +kernel
theorem f9_136 : am_tab 9 136 = some (.aload_n 1, 1, 0, 0, 0, .null) := by decide +kernel
theorem f9_137 : am_tab 9 137 = some (.iload 20, 2, 0, 0, 0, .null) := by decide +kernel
theorem f9_139 : am_tab 9 139 = some (.iaload, 1, 0, 0, 0, .null) := by decide +kernel
theorem f9_140 : am_tab 9 140 = some (.iconst 1, 1, 0, 0, 0, .null) := by decide +kernel
theorem f9_141 : am_tab 9 141 = some (.if_icmp .ne 7, 3, 148, 0, 0, .null) := by decide +kernel
theorem f9_144 : am_tab 9 144 = some (.iconst 1, 1, 0, 0, 0, .null) := by decide +kernel
theorem f9_145 : am_tab 9 145 = some (.goto 4, 3, 149, 0, 0, .null) := by decide +kernel
theorem f9_148 : am_tab 9 148 = some (.iconst 0, 1, 0, 0, 0, .null) := by decide +kernel
theorem f9_149 : am_tab 9 149 = some (.iastore, 1, 0, 0, 0, .null) := by decide +kernel
theorem f9_150 : am_tab 9 150 = some (.iinc 20 1, 3, 0, 0, 0, .null) := by decide +kernel
theorem f9_153 : am_tab 9 153 = some (.goto (-47), 3, 106, 0, 0, .null) := by decide +kernel
theorem f9_156 : am_tab 9 156 = some (.iload 19, 2, 0, 0, 0, .null) := by decide +kernel
theorem f9_158 : am_tab 9 158 = some (.ifCond .ne 137, 3, 295, 0, 0, .null) := by decide +kernel
theorem f9_161 : am_tab 9 161 = some (.iload 18, 2, 0, 0, 0, .null) := by decide +kernel
theorem f9_163 : am_tab 9 163 = some (.iload 17, 2, 0, 0, 0, .null) := by decide +kernel
theorem f9_165 : am_tab 9 165 = some (.iconst 1, 1, 0, 0, 0, .null) := by decide +kernel
theorem f9_166 : am_tab 9 166 = some (.iadd, 1, 0, 0, 0, .null) := by decide +kernel
theorem f9_167 : am_tab 9 167 = some (.if_icmp .le 128, 3, 295, 0, 0, .null) := by decide +kernel
theorem f9_170 : am_tab 9 170 = some (.aload_n 0, 1, 0, 0, 0, .null) := by decide +kernel
theorem f9_171 : am_tab 9 171 = some (.aload_n 2, 1, 0, 0, 0, .null) := by decide +kernel
theorem f9_172 : am_tab 9 172 = some (.iload 17, 2, 0, 0, 0, .null) := by decide +kernel
theorem f9_174 : am_tab 9 174 = some (.iload 18, 2, 0, 0, 0, .null) := by decide +kernel
theorem f9_176 : am_tab 9 176 = some (.iload 6, 2, 0, 0, 0, .null) := by decide +kernel
theorem f9_178 : am_tab 9 178 = some (.invokestatic 19, 3, 8, 5, 3023, .int 2) := by decide +kernel
theorem f9_181 : am_tab 9 181 = some (.istore 20, 2, 0, 0, 0, .null) := by decide +kernel
theorem f9_183 : am_tab 9 183 = some (.aload 11, 2, 0, 0, 0, .null) := by decide +kernel
theorem f9_185 : am_tab 9 185 = some (.iload 15, 2, 0, 0, 0, .null) := by decide +kernel
theorem f9_187 : am_tab 9 187 = some (.aload_n 0, 1, 0, 0, 0, .null) := by decide +kernel
theorem f9_188 : am_tab 9 188 = some (.aload_n 1, 1, 0, 0, 0, .null) := by decide +kernel
theorem f9_189 : am_tab 9 189 = some (.iload 17, 2, 0, 0, 0, .null) := by decide +kernel
theorem f9_191 : am_tab 9 191 = some (.iload 20, 2, 0, 0, 0, .null) := by decide +kernel
theorem f9_193 : am_tab 9 193 = some (.invokestatic 23, 3, 6, 4, 2177, .int 2) := by decide +kernel
theorem f9_196 : am_tab 9 196 = some (.ifCond .le 14, 3, 210, 0, 0, .null) := by decide +kernel
theorem f9_199 : am_tab 9 199 = some (.bipush 100, 2, 0, 0, 0, .null) := by decide +kernel
theorem f9_201 : am_tab 9 201 = some (.iload 17, 2, 0, 0, 0, .null) := by decide +kernel
theorem f9_203 : am_tab 9 203 = some (.imul, 1, 0, 0, 0, .null) := by decide +kernel
theorem f9_204 : am_tab 9 204 = some (.iload 20, 2, 0, 0, 0, .null) := by decide +kernel
theorem f9_206 : am_tab 9 206 = some (.iadd, 1, 0, 0, 0, .null) := by decide +kernel
theorem f9_207 : am_tab 9 207 = some (.goto 4, 3, 211, 0, 0, .null) := by decide +kernel
theorem f9_210 : am_tab 9 210 = some (.iconst 0, 1, 0, 0, 0, .null) := by decide +kernel
theorem f9_211 : am_tab 9 211 = some (.iastore, 1, 0, 0, 0, .null) := by decide +kernel
theorem f9_212 : am_tab 9 212 = some (.iload 15, 2, 0, 0, 0, .null) := by decide +kernel
theorem f9_214 : am_tab 9 214 = some (.aload_n 0, 1, 0, 0, 0, .null) := by decide +kernel
theorem f9_215 : am_tab 9 215 = some (.aload_n 1, 1, 0, 0, 0, .null) := by decide +kernel
theorem f9_216 : am_tab 9 216 = some (.iload 17, 2, 0, 0, 0, .null) := by decide +kernel
theorem f9_218 : am_tab 9 218 = some (.iload 20, 2, 0, 0, 0, .null) := by decide +kernel
theorem f9_220 : am_tab 9 220 = some (.invokestatic 23, 3, 6, 4, 2177, .int 2) := by decide +kernel
theorem f9_223 : am_tab 9 223 = some (.ifCond .le 7, 3, 230, 0, 0, .null) := by decide +kernel
theorem f9_226 : am_tab 9 226 = some (.iconst 1, 1, 0, 0, 0, .null) := by decide +kernel
theorem f9_227 : am_tab 9 227 = some (.goto 4, 3, 231, 0, 0, .null) := by decide +kernel
theorem f9_230 : am_tab 9 230 = some (.iconst 0, 1, 0, 0, 0, .null) := by decide +kernel
theorem f9_231 : am_tab 9 231 = some (.iadd, 1, 0, 0, 0, .null) := by decide +kernel
theorem f9_232 : am_tab 9 232 = some (.istore 15, 2, 0, 0, 0, .null) := by decide +kernel
theorem f9_234 : am_tab 9 234 = some (.aload 11, 2, 0, 0, 0, .null) := by decide +kernel
theorem f9_236 : am_tab 9 236 = some (.iload 15, 2, 0, 0, 0, .null) := by decide +kernel
theorem f9_238 : am_tab 9 238 = some (.aload 10, 2, 0, 0, 0, .null) := by decide +kernel
theorem f9_240 : am_tab 9 240 = some (.iload 16, 2, 0, 0, 0, .null) := by decide +kernel
theorem f9_242 : am_tab 9 242 = some (.iaload, 1, 0, 0, 0, .null) := by decide +kernel
theorem f9_243 : am_tab 9 243 = some (.aload_n 0, 1, 0, 0, 0, .null) := by decide +kernel
theorem f9_244 : am_tab 9 244 = some (.aload_n 1, 1, 0, 0, 0, .null) := by decide +kernel
theorem f9_245 : am_tab 9 245 = some (.iload 17, 2, 0, 0, 0, .null) := by decide +kernel
theorem f9_247 : am_tab 9 247 = some (.iload 20, 2, 0, 0, 0, .null) := by decide +kernel
theorem f9_249 : am_tab 9 249 = some (.invokestatic 23, 3, 6, 4, 2177, .int 2) := by decide +kernel
theorem f9_252 : am_tab 9 252 = some (.if_icmp .le 14, 3, 266, 0, 0, .null) := by decide +kernel
theorem f9_255 : am_tab 9 255 = some (.bipush 100, 2, 0, 0, 0, .null) := by decide +kernel
theorem f9_257 : am_tab 9 257 = some (.iload 20, 2, 0, 0, 0, .null) := by decide +kernel
theorem f9_259 : am_tab 9 259 = some (.imul, 1, 0, 0, 0, .null) := by decide +kernel
theorem f9_260 : am_tab 9 260 = some (.iload 18, 2, 0, 0, 0, .null) := by decide +kernel
theorem f9_262 : am_tab 9 262 = some (.iadd, 1, 0, 0, 0, .null) := by decide +kernel
theorem f9_263 : am_tab 9 263 = some (.goto 4, 3, 267, 0, 0, .null) := by decide +kernel
theorem f9_266 : am_tab 9 266 = some (.iconst 0, 1, 0, 0, 0, .null) := by decide +kernel
theorem f9_267 : am_tab 9 267 = some (.iastore, 1, 0, 0, 0, .null) := by decide +kernel
theorem f9_268 : am_tab 9 268 = some (.iload 15, 2, 0, 0, 0, .null) := by decide +kernel
theorem f9_270 : am_tab 9 270 = some (.aload 10, 2, 0, 0, 0, .null) := by decide +kernel
theorem f9_272 : am_tab 9 272 = some (.iload 16, 2, 0, 0, 0, .null) := by decide +kernel
theorem f9_274 : am_tab 9 274 = some (.iaload, 1, 0, 0, 0, .null) := by decide +kernel
theorem f9_275 : am_tab 9 275 = some (.aload_n 0, 1, 0, 0, 0, .null) := by decide +kernel
theorem f9_276 : am_tab 9 276 = some (.aload_n 1, 1, 0, 0, 0, .null) := by decide +kernel
theorem f9_277 : am_tab 9 277 = some (.iload 17, 2, 0, 0, 0, .null) := by decide +kernel
theorem f9_279 : am_tab 9 279 = some (.iload 20, 2, 0, 0, 0, .null) := by decide +kernel
theorem f9_281 : am_tab 9 281 = some (.invokestatic 23, 3, 6, 4, 2177, .int 2) := by decide +kernel
theorem f9_284 : am_tab 9 284 = some (.if_icmp .le 7, 3, 291, 0, 0, .null) := by decide +kernel
theorem f9_287 : am_tab 9 287 = some (.iconst 1, 1, 0, 0, 0, .null) := by decide +kernel
theorem f9_288 : am_tab 9 288 = some (.goto 4, 3, 292, 0, 0, .null) := by decide +kernel
theorem f9_291 : am_tab 9 291 = some (.iconst 0, 1, 0, 0, 0, .null) := by decide +kernel
theorem f9_292 : am_tab 9 292 = some (.iadd, 1, 0, 0, 0, .null) := by decide +kernel
theorem f9_293 : am_tab 9 293 = some (.istore 15, 2, 0, 0, 0, .null) := by decide +kernel
theorem f9_295 : am_tab 9 295 = some (.iinc 16 1, 3, 0, 0, 0, .null) := by decide +kernel
theorem f9_298 : am_tab 9 298 = some (.goto (-255), 3, 43, 0, 0, .null) := by decide +kernel
theorem f9_301 : am_tab 9 301 = some (.aload_n 0, 1, 0, 0, 0, .null) := by decide +kernel
theorem f9_302 : am_tab 9 302 = some (.aload_n 1, 1, 0, 0, 0, .null) := by decide +kernel
theorem f9_303 : am_tab 9 303 = some (.aload 8, 2, 0, 0, 0, .null) := by decide +kernel
theorem f9_305 : am_tab 9 305 = some (.aload 9, 2, 0, 0, 0, .null) := by decide +kernel
theorem f9_307 : am_tab 9 307 = some (.aload 10, 2, 0, 0, 0, .null) := by decide +kernel
theorem f9_309 : am_tab 9 309 = some (.aload 11, 2, 0, 0, 0, .null) := by decide +kernel
theorem f9_311 : am_tab 9 311 = some (.aload 12, 2, 0, 0, 0, .null) := by decide +kernel
theorem f9_313 : am_tab 9 313 = some (.iload 15, 2, 0, 0, 0, .null) := by decide +kernel
theorem f9_315 : am_tab 9 315 = some (.iload 14, 2, 0, 0, 0, .null) := by decide +kernel
theorem f9_317 : am_tab 9 317 = some (.invokestatic 26, 3, 10, 9, 3029, .int 2) := by decide +kernel
theorem f9_320 : am_tab 9 320 = some (.istore 14, 2, 0, 0, 0, .null) := by decide +kernel
theorem f9_322 : am_tab 9 322 = some (.goto (-290), 3, 32, 0, 0, .null) := by decide +kernel
theorem f9_325 : am_tab 9 325 = some (.iload 13, 2, 0, 0, 0, .null) := by decide +kernel
theorem f9_327 : am_tab 9 327 = some (.ireturn, 1, 0, 0, 0, .null) := by decide +kernel
theorem f10_0 : am_tab 10 0 = some (.iconst 0, 1, 0, 0, 0, .null) := by decide +kernel
theorem f10_1 : am_tab 10 1 = some (.istore 9, 2, 0, 0, 0, .null) := by decide +kernel
theorem f10_3 : am_tab 10 3 = some (.iload 9, 2, 0, 0, 0, .null) := by decide +kernel
theorem f10_5 : am_tab 10 5 = some (.iload 7, 2, 0, 0, 0, .null) := by decide +kernel
theorem f10_7 : am_tab 10 7 = some (.if_icmp .ge 132, 3, 139, 0, 0, .null) := by decide +kernel
theorem f10_10 : am_tab 10 10 = some (.aload 5, 2, 0, 0, 0, .null) := by decide +kernel
theorem f10_12 : am_tab 10 12 = some (.iload 9, 2, 0, 0, 0, .null) := by decide +kernel
theorem f10_14 : am_tab 10 14 = some (.iaload, 1, 0, 0, 0, .null) := by decide +kernel
theorem f10_15 : am_tab 10 15 = some (.bipush 100, 2, 0, 0, 0, .null) := by decide +kernel
theorem f10_17 : am_tab 10 17 = some (.idiv, 1, 0, 0, 0, .null) := by decide +kernel
theorem f10_18 : am_tab 10 18 = some (.istore 10, 2, 0, 0, 0, .null) := by decide +kernel
theorem f10_20 : am_tab 10 20 = some (.aload 6, 2, 0, 0, 0, .null) := by decide +kernel
theorem f10_22 : am_tab 10 22 = some (.iload 9, 2, 0, 0, 0, .null) := by decide +kernel
theorem f10_24 : am_tab 10 24 = some (.iconst 0, 1, 0, 0, 0, .null) := by decide +kernel
theorem f10_25 : am_tab 10 25 = some (.iastore, 1, 0, 0, 0, .null) := by decide +kernel
theorem f10_26 : am_tab 10 26 = some (.iconst 0, 1, 0, 0, 0, .null) := by decide +kernel
theorem f10_27 : am_tab 10 27 = some (.istore 11, 2, 0, 0, 0, .null) := by decide +kernel
theorem f10_29 : am_tab 10 29 = some (.iload 11, 2, 0, 0, 0, .null) := by decide +kernel
theorem f10_31 : am_tab 10 31 = some (.iload 8, 2, 0, 0, 0, .null) := by decide +kernel
theorem f10_33 : am_tab 10 33 = some (.if_icmp .ge 100, 3, 133, 0, 0, .null) := by decide +kernel
theorem f10_36 : am_tab 10 36 = some (.aload_n 2, 1, 0, 0, 0, .null) := by decide +kernel
theorem f10_37 : am_tab 10 37 = some (.iload 11, 2, 0, 0, 0, .null) := by decide +kernel
theorem f10_39 : am_tab 10 39 = some (.iaload, 1, 0, 0, 0, .null) := by decide +kernel
theorem f10_40 : am_tab 10 40 = some (.iload 10, 2, 0, 0, 0, .null) := by decide +kernel
theorem f10_42 : am_tab 10 42 = some (.if_icmp .gt 16, 3, 58, 0, 0, .null) := by decide +kernel
theorem f10_45 : am_tab 10 45 = some (.iload 10, 2, 0, 0, 0, .null) := by decide +kernel
theorem f10_47 : am_tab 10 47 = some (.aload_n 3, 1, 0, 0, 0, .null) := by decide +kernel
theorem f10_48 : am_tab 10 48 = some (.iload 11, 2, 0, 0, 0, .null) := by decide +kernel
theorem f10_50 : am_tab 10 50 = some (.iaload, 1, 0, 0, 0, .null) := by decide +kernel
theorem f10_51 : am_tab 10 51 = some (.if_icmp .ge 7, 3, 58, 0, 0, .null) := by decide +kernel
theorem f10_54 : am_tab 10 54 = some (.iconst 1, 1, 0, 0, 0, .null) := by decide +kernel
theorem f10_55 : am_tab 10 55 = some (.goto 4, 3, 59, 0, 0, .null) := by decide +kernel
theorem f10_58 : am_tab 10 58 = some (.iconst 0, 1, 0, 0, 0, .null) := by decide +kernel
theorem f10_59 : am_tab 10 59 = some (.istore 12, 2, 0, 0, 0, .null) := by decide +kernel
theorem f10_61 : am_tab 10 61 = some (.aload_n 0, 1, 0, 0, 0, .null) := by decide +kernel
theorem f10_62 : am_tab 10 62 = some (.aload_n 1, 1, 0, 0, 0, .null) := by decide +kernel
theorem f10_63 : am_tab 10 63 = some (.aload_n 2, 1, 0, 0, 0, .null) := by decide +kernel
theorem f10_64 : am_tab 10 64 = some (.iload 11, 2, 0, 0, 0, .null) := by decide +kernel
theorem f10_66 : am_tab 10 66 = some (.iaload, 1, 0, 0, 0, .null) := by decide +kernel
theorem f10_67 : am_tab 10 67 = some (.iload 10, 2, 0, 0, 0, .null) := by decide +kernel
theorem f10_69 : am_tab 10 69 = some (.invokestatic 23, 3, 6, 4, 2177, .int 2) := by decide +kernel
theorem f10_72 : am_tab 10 72 = some (.istore 13, 2, 0, 0, 0, .null) := by decide +kernel
theorem f10_74 : am_tab 10 74 = some (.aload 6, 2, 0, 0, 0, .null) := by decide +kernel
theorem f10_76 : am_tab 10 76 = some (.iload 9, 2, 0, 0, 0, .null) := by decide +kernel
theorem f10_78 : am_tab 10 78 = some (.iload 12, 2, 0, 0, 0, .null) := by decide +kernel
theorem f10_80 : am_tab 10 80 = some (.ifCond .ne 11, 3, 91, 0, 0, .null) := by decide +kernel
theorem f10_83 : am_tab 10 83 = some (.aload 6, 2, 0, 0, 0, .null) := by decide +kernel
theorem f10_85 : am_tab 10 85 = some (.iload 9, 2, 0, 0, 0, .null) := by decide +kernel
theorem f10_87 : am_tab 10 87 = some (.iaload, 1, 0, 0, 0, .null) := by decide +kernel
theorem f10_88 : am_tab 10 88 = some (.goto 38, 3, 126, 0, 0, .null) := by decide +kernel
theorem f10_91 : am_tab 10 91 = some (.iload 10, 2, 0, 0, 0, .null) := by decide +kernel
theorem f10_93 : am_tab 10 93 = some (.aload_n 2, 1, 0, 0, 0, .null) := by decide +kernel
theorem f10_94 : am_tab 10 94 = some (.iload 11, 2, 0, 0, 0, .null) := by decide +kernel
theorem f10_96 : am_tab 10 96 = some (.iaload, 1, 0, 0, 0, .null) := by decide +kernel
theorem f10_97 : am_tab 10 97 = some (.if_icmp .ne 21, 3, 118, 0, 0, .null) := by decide +kernel
theorem f10_100 : am_tab 10 100 = some (.aload_n 0, 1, 0, 0, 0, .null) := by decide +kernel
theorem f10_101 : am_tab 10 101 = some (.aload_n 1, 1, 0, 0, 0, .null) := by decide +kernel
theorem f10_102 : am_tab 10 102 = some (.iload 10, 2, 0, 0, 0, .null) := by decide +kernel
theorem f10_104 : am_tab 10 104 = some (.aload 5, 2, 0, 0, 0, .null) := by decide +kernel
theorem f10_106 : am_tab 10 106 = some (.iload 9, 2, 0, 0, 0, .null) := by decide +kernel
theorem f10_108 : am_tab 10 108 = some (.iaload, 1, 0, 0, 0, .null) := by decide +kernel
theorem f10_109 : am_tab 10 109 = some (.bipush 100, 2, 0, 0, 0, .null) := by decide +kernel
theorem f10_111 : am_tab 10 111 = some (.irem, 1, 0, 0, 0, .null) := by decide +kernel
theorem f10_112 : am_tab 10 112 = some (.invokestatic 23, 3, 6, 4, 2177, .int 2) := by decide +kernel
theorem f10_115 : am_tab 10 115 = some (.goto 11, 3, 126, 0, 0, .null) := by decide +kernel
theorem f10_118 : am_tab 10 118 = some (.aload 4, 2, 0, 0, 0, .null) := by decide +kernel
theorem f10_120 : am_tab 10 120 = some (.iload 11, 2, 0, 0, 0, .null) := by decide +kernel
theorem f10_122 : am_tab 10 122 = some (.iaload, 1, 0, 0, 0, .null) := by decide +kernel
theorem f10_123 : am_tab 10 123 = some (.iload 13, 2, 0, 0, 0, .null) := by decide +kernel
theorem f10_125 : am_tab 10 125 = some (.isub, 1, 0, 0, 0, .null) := by decide +kernel
theorem f10_126 : am_tab 10 126 = some (.iastore, 1, 0, 0, 0, .null) := by decide +kernel
theorem f10_127 : am_tab 10 127 = some (.iinc 11 1, 3, 0, 0, 0, .null) := by decide +kernel
theorem f10_130 : am_tab 10 130 = some (.goto (-101), 3, 29, 0, 0, .null) := by decide +kernel
theorem f10_133 : am_tab 10 133 = some (.iinc 9 1, 3, 0, 0, 0, .null) := by decide +kernel
theorem f10_136 : am_tab 10 136 = some (.goto (-133), 3, 3, 0, 0, .null) := by decide +kernel
theorem f10_139 : am_tab 10 139 = some (.iconst 0, 1, 0, 0, 0, .null) := by decide +kernel
theorem f10_140 : am_tab 10 140 = some (.istore 9, 2, 0, 0, 0, .null) := by decide +kernel
theorem f10_142 : am_tab 10 142 = some (.iload 9, 2, 0, 0, 0, .null) := by decide +kernel
theorem f10_144 : am_tab 10 144 = some (.iload 7, 2, 0, 0, 0, .null) := by decide +kernel
theorem f10_146 : am_tab 10 146 = some (.if_icmp .ge 43, 3, 189, 0, 0, .null) := by decide +kernel
theorem f10_149 : am_tab 10 149 = some (.aload_n 2, 1, 0, 0, 0, .null) := by decide +kernel
theorem f10_150 : am_tab 10 150 = some (.iload 9, 2, 0, 0, 0, .null) := by decide +kernel
theorem f10_152 : am_tab 10 152 = some (.aload 5, 2, 0, 0, 0, .null) := by decide +kernel
theorem f10_154 : am_tab 10 154 = some (.iload 9, 2, 0, 0, 0, .null) := by decide +kernel
theorem f10_156 : am_tab 10 156 = some (.iaload, 1, 0, 0, 0, .null) := by decide +kernel
theorem f10_157 : am_tab 10 157 = some (.bipush 100, 2, 0, 0, 0, .null) := by decide +kernel
theorem f10_159 : am_tab 10 159 = some (.idiv, 1, 0, 0, 0, .null) := by decide +kernel
theorem f10_160 : am_tab 10 160 = some (.iastore, 1, 0, 0, 0, .null) := by decide +kernel
theorem f10_161 : am_tab 10 161 = some (.aload_n 3, 1, 0, 0, 0, .null) := by decide +kernel
theorem f10_162 : am_tab 10 162 = some (.iload 9, 2, 0, 0, 0, .null) := by decide +kernel
theorem f10_164 : am_tab 10 164 = some (.aload 5, 2, 0, 0, 0, .null) := by decide +kernel
theorem f10_166 : am_tab 10 166 = some (.iload 9, 2, 0, 0, 0, .null) := by decide +kernel
theorem f10_168 : am_tab 10 168 = some (.iaload, 1, 0, 0, 0, .null) := by decide +kernel
theorem f10_169 : am_tab 10 169 = some (.bipush 100, 2, 0, 0, 0, .null) := by decide +kernel
theorem f10_171 : am_tab 10 171 = some (.irem, 1, 0, 0, 0, .null) := by decide +kernel
theorem f10_172 : am_tab 10 172 = some (.iastore, 1, 0, 0, 0, .null) := by decide +kernel
theorem f10_173 : am_tab 10 173 = some (.aload 4, 2, 0, 0, 0, .null) := by decide +kernel
theorem f10_175 : am_tab 10 175 = some (.iload 9, 2, 0, 0, 0, .null) := by decide +kernel
theorem f10_177 : am_tab 10 177 = some (.aload 6, 2, 0, 0, 0, .null) := by decide +kernel
theorem f10_179 : am_tab 10 179 = some (.iload 9, 2, 0, 0, 0, .null) := by decide +kernel
theorem f10_181 : am_tab 10 181 = some (.iaload, 1, 0, 0, 0, .null) := by decide +kernel
theorem f10_182 : am_tab 10 182 = some (.iastore, 1, 0, 0, 0, .null) := by decide +kernel
theorem f10_183 : am_tab 10 183 = some (.iinc 9 1, 3, 0, 0, 0, .null) := by decide +kernel
theorem f10_186 : am_tab 10 186 = some (.goto (-44), 3, 142, 0, 0, .null) := by decide +kernel
theorem f10_189 : am_tab 10 189 = some (.iload 7, 2, 0, 0, 0, .null) := by decide +kernel
theorem f10_191 : am_tab 10 191 = some (.ireturn, 1, 0, 0, 0, .null) := by decide +kernel
theorem f11_0 : am_tab 11 0 = some (.bipush 48, 2, 0, 0, 0, .null) := by decide +kernel
theorem f11_2 : am_tab 11 2 = some (.newarray .int, 2, 0, 0, 1086, .null) := by decide +kernel
theorem f11_4 : am_tab 11 4 = some (.astore 8, 2, 0, 0, 0, .null) := by decide +kernel
theorem f11_6 : am_tab 11 6 = some (.bipush 48, 2, 0, 0, 0, .null) := by decide +kernel
theorem f11_8 : am_tab 11 8 = some (.newarray .int, 2, 0, 0, 1086, .null) := by decide +kernel
theorem f11_10 : am_tab 11 10 = some (.astore 9, 2, 0, 0, 0, .null) := by decide +kernel
theorem f11_12 : am_tab 11 12 = some (.bipush 48, 2, 0, 0, 0, .null) := by decide +kernel
theorem f11_14 : am_tab 11 14 = some (.newarray .int, 2, 0, 0, 1086, .null) := by decide +kernel
theorem f11_16 : am_tab 11 16 = some (.astore 10, 2, 0, 0, 0, .null) := by decide +kernel
theorem f11_18 : am_tab 11 18 = some (.bipush 64, 2, 0, 0, 0, .null) := by decide +kernel
theorem f11_20 : am_tab 11 20 = some (.newarray .int, 2, 0, 0, 1086, .null) := by decide +kernel
theorem f11_22 : am_tab 11 22 = some (.astore 11, 2, 0, 0, 0, .null) := by decide +kernel
theorem f11_24 : am_tab 11 24 = some (.bipush 48, 2, 0, 0, 0, .null) := by decide +kernel
theorem f11_26 : am_tab 11 26 = some (.newarray .int, 2, 0, 0, 1086, .null) := by decide +kernel
theorem f11_28 : am_tab 11 28 = some (.astore 12, 2, 0, 0, 0, .null) := by decide +kernel
theorem f11_30 : am_tab 11 30 = some (.iconst 0, 1, 0, 0, 0, .null) := by decide +kernel
theorem f11_31 : am_tab 11 31 = some (.istore 13, 2, 0, 0, 0, .null) := by decide +kernel
theorem f11_33 : am_tab 11 33 = some (.iconst 0, 1, 0, 0, 0, .null) := by decide +kernel
theorem f11_34 : am_tab 11 34 = some (.istore 14, 2, 0, 0, 0, .null) := by decide +kernel
theorem f11_36 : am_tab 11 36 = some (.iload 14, 2, 0, 0, 0, .null) := by decide +kernel
theorem f11_38 : am_tab 11 38 = some (.bipush 48, 2, 0, 0, 0, .null) := by decide +kernel
theorem f11_40 : am_tab 11 40 = some (.if_icmp .ge 15, 3, 55, 0, 0, .null) := by decide +kernel
theorem f11_43 : am_tab 11 43 = some (.aload 7, 2, 0, 0, 0, .null) := by decide +kernel
theorem f11_45 : am_tab 11 45 = some (.iload 14, 2, 0, 0, 0, .null) := by decide +kernel
theorem f11_47 : am_tab 11 47 = some (.iconst 0, 1, 0, 0, 0, .null) := by decide +kernel
theorem f11_48 : am_tab 11 48 = some (.iastore, 1, 0, 0, 0, .null) := by decide +kernel
theorem f11_49 : am_tab 11 49 = some (.iinc 14 1, 3, 0, 0, 0, .null) := by decide +kernel
theorem f11_52 : am_tab 11 52 = some (.goto (-16), 3, 36, 0, 0, .null) := by decide +kernel
theorem f11_55 : am_tab 11 55 = some (.iconst 0, 1, 0, 0, 0, .null) := by decide +kernel
theorem f11_56 : am_tab 11 56 = some (.istore 14, 2, 0, 0, 0, .null) := by decide +kernel
theorem f11_58 : am_tab 11 58 = some (.iload 14, 2, 0, 0, 0, .null) := by decide +kernel
theorem f11_60 : am_tab 11 60 = some (.aload_n 3, 1, 0, 0, 0, .null) := by decide +kernel
theorem f11_61 : am_tab 11 61 = some (.invokestatic 30, 3, 3, 1, 2025, .int 2) := by decide +kernel
theorem f11_64 : am_tab 11 64 = some (.if_icmp .ge 101, 3, 165, 0, 0, .null) := by decide +kernel
theorem f11_67 : am_tab 11 67 = some (.aload_n 3, 1, 0, 0, 0, .null) := by decide +kernel
theorem f11_68 : am_tab 11 68 = some (.iload 14, 2, 0, 0, 0, .null) := by decide +kernel
theorem f11_70 : am_tab 11 70 = some (.invokestatic 34, 3, 4, 2, 2183, .int 2) := by decide +kernel
theorem f11_73 : am_tab 11 73 = some (.istore 15, 2, 0, 0, 0, .null) := by decide +kernel
theorem f11_75 : am_tab 11 75 = some (.aload_n 3, 1, 0, 0, 0, .null) := by decide +kernel
theorem f11_76 : am_tab 11 76 = some (.iload 14, 2, 0, 0, 0, .null) := by decide +kernel
theorem f11_78 : am_tab 11 78 = some (.iconst 1, 1, 0, 0, 0, .null) := by decide +kernel
theorem f11_79 : am_tab 11 79 = some (.iadd, 1, 0, 0, 0, .null) := by decide +kernel
theorem f11_80 : am_tab 11 80 = some (.invokestatic 34, 3, 4, 2, 2183, .int 2) := by decide +kernel
theorem f11_83 : am_tab 11 83 = some (.istore 16, 2, 0, 0, 0, .null) := by decide +kernel
theorem f11_85 : am_tab 11 85 = some (.aload 5, 2, 0, 0, 0, .null) := by decide +kernel
theorem f11_87 : am_tab 11 87 = some (.iconst 2, 1, 0, 0, 0, .null) := by decide +kernel
theorem f11_88 : am_tab 11 88 = some (.iaload, 1, 0, 0, 0, .null) := by decide +kernel
theorem f11_89 : am_tab 11 89 = some (.iconst 1, 1, 0, 0, 0, .null) := by decide +kernel
theorem f11_90 : am_tab 11 90 = some (.if_icmp .ne 20, 3, 110, 0, 0, .null) := by decide +kernel
theorem f11_93 : am_tab 11 93 = some (.aload_n 0, 1, 0, 0, 0, .null) := by decide +kernel
theorem f11_94 : am_tab 11 94 = some (.iload 15, 2, 0, 0, 0, .null) := by decide +kernel
theorem f11_96 : am_tab 11 96 = some (.iload 16, 2, 0, 0, 0, .null) := by decide +kernel
theorem f11_98 : am_tab 11 98 = some (.invokestatic 15, 3, 5, 3, 2174, .int 2) := by decide +kernel
theorem f11_101 : am_tab 11 101 = some (.aload 4, 2, 0, 0, 0, .null) := by decide +kernel
theorem f11_103 : am_tab 11 103 = some (.iload 14, 2, 0, 0, 0, .null) := by decide +kernel
theorem f11_105 : am_tab 11 105 = some (.iaload, 1, 0, 0, 0, .null) := by decide +kernel
theorem f11_106 : am_tab 11 106 = some (.isub, 1, 0, 0, 0, .null) := by decide +kernel
theorem f11_107 : am_tab 11 107 = some (.goto 12, 3, 119, 0, 0, .null) := by decide +kernel
theorem f11_110 : am_tab 11 110 = some (.aload_n 0, 1, 0, 0, 0, .null) := by decide +kernel
theorem f11_111 : am_tab 11 111 = some (.aload_n 1, 1, 0, 0, 0, .null) := by decide +kernel
theorem f11_112 : am_tab 11 112 = some (.iload 15, 2, 0, 0, 0, .null) := by decide +kernel
theorem f11_114 : am_tab 11 114 = some (.iload 16, 2, 0, 0, 0, .null) := by decide +kernel
theorem f11_116 : am_tab 11 116 = some (.invokestatic 23, 3, 6, 4, 2177, .int 2) := by decide +kernel
theorem f11_119 : am_tab 11 119 = some (.istore 17, 2, 0, 0, 0, .null) := by decide +kernel
theorem f11_121 : am_tab 11 121 = some (.iload 13, 2, 0, 0, 0, .null) := by decide +kernel
theorem f11_123 : am_tab 11 123 = some (.iconst 1, 1, 0, 0, 0, .null) := by decide +kernel
theorem f11_124 : am_tab 11 124 = some (.aload 5, 2, 0, 0, 0, .null) := by decide +kernel
theorem f11_126 : am_tab 11 126 = some (.iconst 2, 1, 0, 0, 0, .null) := by decide +kernel
theorem f11_127 : am_tab 11 127 = some (.iaload, 1, 0, 0, 0, .null) := by decide +kernel
theorem f11_128 : am_tab 11 128 = some (.isub, 1, 0, 0, 0, .null) := by decide +kernel
theorem f11_129 : am_tab 11 129 = some (.aload_n 0, 1, 0, 0, 0, .null) := by decide +kernel
theorem f11_130 : am_tab 11 130 = some (.aload_n 1, 1, 0, 0, 0, .null) := by decide +kernel
theorem f11_131 : am_tab 11 131 = some (.aload_n 2, 1, 0, 0, 0, .null) := by decide +kernel
theorem f11_132 : am_tab 11 132 = some (.iload 15, 2, 0, 0, 0, .null) := by decide +kernel
theorem f11_134 : am_tab 11 134 = some (.iload 16, 2, 0, 0, 0, .null) := by decide +kernel
theorem f11_136 : am_tab 11 136 = some (.iload 17, 2, 0, 0, 0, .null) := by decide +kernel
theorem f11_138 : am_tab 11 138 = some (.iload 6, 2, 0, 0, 0, .null) := by decide +kernel
theorem f11_140 : am_tab 11 140 = some (.aload 7, 2, 0, 0, 0, .null) := by decide +kernel
theorem f11_142 : am_tab 11 142 = some (.aload 8, 2, 0, 0, 0, .null) := by decide +kernel
theorem f11_144 : am_tab 11 144 = some (.aload 9, 2, 0, 0, 0, .null) := by decide +kernel
theorem f11_146 : am_tab 11 146 = some (.aload 10, 2, 0, 0, 0, .null) := by decide +kernel
theorem f11_148 : am_tab 11 148 = some (.aload 11, 2, 0, 0, 0, .null) := by decide +kernel
theorem f11_150 : am_tab 11 150 = some (.aload 12, 2, 0, 0, 0, .null) := by decide +kernel
theorem f11_152 : am_tab 11 152 = some (.invokestatic 38, 3, 9, 13, 3020, .int 2) := by decide +kernel
theorem f11_155 : am_tab 11 155 = some (.iadd, 1, 0, 0, 0, .null) := by decide +kernel
theorem f11_156 : am_tab 11 156 = some (.iadd, 1, 0, 0, 0, .null) := by decide +kernel
theorem f11_157 : am_tab 11 157 = some (.istore 13, 2, 0, 0, 0, .null) := by decide +kernel
theorem f11_159 : am_tab 11 159 = some (.iinc 14 1, 3, 0, 0, 0, .null) := by decide +kernel
theorem f11_162 : am_tab 11 162 = some (.goto (-104), 3, 58, 0, 0, .null) := by decide +kernel
theorem f11_165 : am_tab 11 165 = some (.iload 13, 2, 0, 0, 0, .null) := by decide +kernel
theorem f11_167 : am_tab 11 167 = some (.ireturn, 1, 0, 0, 0, .null) := by decide +kernel
theorem f12_0 : am_tab 12 0 = some (.iconst 0, 1, 0, 0, 0, .null) := by decide +kernel
theorem f12_1 : am_tab 12 1 = some (.istore 7, 2, 0, 0, 0, .null) := by decide +kernel
theorem f12_3 : am_tab 12 3 = some (.iconst 0, 1, 0, 0, 0, .null) := by decide +kernel
theorem f12_4 : am_tab 12 4 = some (.istore 8, 2, 0, 0, 0, .null) := by decide +kernel
theorem f12_6 : am_tab 12 6 = some (.iconst 0, 1, 0, 0, 0, .null) := by decide +kernel
theorem f12_7 : am_tab 12 7 = some (.istore 9, 2, 0, 0, 0, .null) := by decide +kernel
theorem f12_9 : am_tab 12 9 = some (.iconst 1, 1, 0, 0, 0, .null) := by decide +kernel
theorem f12_10 : am_tab 12 10 = some (.istore 10, 2, 0, 0, 0, .null) := by decide +kernel
theorem f12_12 : am_tab 12 12 = some (.iconst 0, 1, 0, 0, 0, .null) := by decide +kernel
theorem f12_13 : am_tab 12 13 = some (.istore 11, 2, 0, 0, 0, .null) := by decide +kernel
theorem f12_15 : am_tab 12 15 = some (.iload 11, 2, 0, 0, 0, .null) := by decide +kernel
theorem f12_17 : am_tab 12 17 = some (.bipush 48, 2, 0, 0, 0, .null) := by decide +kernel
theorem f12_19 : am_tab 12 19 = some (.if_icmp .ge 127, 3, 146, 0, 0, .null) := by decide +kernel
theorem f12_22 : am_tab 12 22 = some (.iload 10, 2, 0, 0, 0, .null) := by decide +kernel
theorem f12_24 : am_tab 12 24 = some (.ifCond .eq 122, 3, 146, 0, 0, .null) := by decide +kernel
theorem f12_27 : am_tab 12 27 = some (.iload 9, 2, 0, 0, 0, .null) := by decide +kernel
theorem f12_29 : am_tab 12 29 = some (.iload 11, 2, 0, 0, 0, .null) := by decide +kernel
theorem f12_31 : am_tab 12 31 = some (.ifCond .le 11, 3, 42, 0, 0, .null) := by decide +kernel
theorem f12_34 : am_tab 12 34 = some (.aload 4, 2, 0, 0, 0, .null) := by decide +kernel
theorem f12_36 : am_tab 12 36 = some (.iload 11, 2, 0, 0, 0, .null) := by decide +kernel
theorem f12_38 : am_tab 12 38 = some (.iaload, 1, 0, 0, 0, .null) := by decide +kernel
theorem f12_39 : am_tab 12 39 = some (.goto 4, 3, 43, 0, 0, .null) := by decide +kernel
theorem f12_42 : am_tab 12 42 = some (.iconst 0, 1, 0, 0, 0, .null) := by decide +kernel
theorem f12_43 : am_tab 12 43 = some (.iadd, 1, 0, 0, 0, .null) := by decide +kernel
theorem f12_44 : am_tab 12 44 = some (.istore 9, 2, 0, 0, 0, .null) := by decide +kernel
theorem f12_46 : am_tab 12 46 = some (.iload 7, 2, 0, 0, 0, .null) := by decide +kernel
theorem f12_48 : am_tab 12 48 = some (.aload_n 2, 1, 0, 0, 0, .null) := by decide +kernel
theorem f12_49 : am_tab 12 49 = some (.iload 11, 2, 0, 0, 0, .null) := by decide +kernel
theorem f12_51 : am_tab 12 51 = some (.iaload, 1, 0, 0, 0, .null) := by decide +kernel
theorem f12_52 : am_tab 12 52 = some (.iadd, 1, 0, 0, 0, .null) := by decide +kernel
theorem f12_53 : am_tab 12 53 = some (.istore 7, 2, 0, 0, 0, .null) := by decide +kernel
theorem f12_55 : am_tab 12 55 = some (.iload 8, 2, 0, 0, 0, .null) := by decide +kernel
theorem f12_57 : am_tab 12 57 = some (.aload_n 3, 1, 0, 0, 0, .null) := by decide +kernel
theorem f12_58 : am_tab 12 58 = some (.iload 11, 2, 0, 0, 0, .null) := by decide +kernel
theorem f12_60 : am_tab 12 60 = some (.iaload, 1, 0, 0, 0, .null) := by decide +kernel
theorem f12_61 : am_tab 12 61 = some (.iadd, 1, 0, 0, 0, .null) := by decide +kernel
theorem f12_62 : am_tab 12 62 = some (.istore 8, 2, 0, 0, 0, .null) := by decide +kernel
theorem f12_64 : am_tab 12 64 = some (.aload_n 0, 1, 0, 0, 0, .null) := by decide +kernel
theorem f12_65 : am_tab 12 65 = some (.iload 11, 2, 0, 0, 0, .null) := by decide +kernel
theorem f12_67 : am_tab 12 67 = some (.iconst 0, 1, 0, 0, 0, .null) := by decide +kernel
theorem f12_68 : am_tab 12 68 = some (.invokevirtual 42, 3, 112, 3, 2031, .int 0) := by decide +kernel
theorem f12_71 : am_tab 12 71 = some (.aload_n 1, 1, 0, 0, 0, .null) := by decide +kernel
theorem f12_72 : am_tab 12 72 = some (.iload 11, 2, 0, 0, 0, .null) := by decide +kernel
theorem f12_74 : am_tab 12 74 = some (.iaload, 1, 0, 0, 0, .null) := by decide +kernel
theorem f12_75 : am_tab 12 75 = some (.if_icmp .ne 62, 3, 137, 0, 0, .null) := by decide +kernel
theorem f12_78 : am_tab 12 78 = some (.aload_n 0, 1, 0, 0, 0, .null) := by decide +kernel
theorem f12_79 : am_tab 12 79 = some (.iload 11, 2, 0, 0, 0, .null) := by decide +kernel
theorem f12_81 : am_tab 12 81 = some (.iconst 1, 1, 0, 0, 0, .null) := by decide +kernel
theorem f12_82 : am_tab 12 82 = some (.invokevirtual 42, 3, 112, 3, 2031, .int 0) := by decide +kernel
theorem f12_85 : am_tab 12 85 = some (.aload_n 2, 1, 0, 0, 0, .null) := by decide +kernel
theorem f12_86 : am_tab 12 86 = some (.iload 11, 2, 0, 0, 0, .null) := by decide +kernel
theorem f12_88 : am_tab 12 88 = some (.iaload, 1, 0, 0, 0, .null) := by decide +kernel
theorem f12_89 : am_tab 12 89 = some (.if_icmp .ne 48, 3, 137, 0, 0, .null) := by decide +kernel
theorem f12_92 : am_tab 12 92 = some (.aload_n 0, 1, 0, 0, 0, .null) := by decide +kernel
theorem f12_93 : am_tab 12 93 = some (.iload 11, 2, 0, 0, 0, .null) := by decide +kernel
theorem f12_95 : am_tab 12 95 = some (.iconst 2, 1, 0, 0, 0, .null) := by decide +kernel
theorem f12_96 : am_tab 12 96 = some (.invokevirtual 42, 3, 112, 3, 2031, .int 0) := by decide +kernel
theorem f12_99 : am_tab 12 99 = some (.aload_n 3, 1, 0, 0, 0, .null) := by decide +kernel
theorem f12_100 : am_tab 12 100 = some (.iload 11, 2, 0, 0, 0, .null) := by decide +kernel
theorem f12_102 : am_tab 12 102 = some (.iaload, 1, 0, 0, 0, .null) := by decide +kernel
theorem f12_103 : am_tab 12 103 = some (.if_icmp .ne 34, 3, 137, 0, 0, .null) := by decide +kernel
theorem f12_106 : am_tab 12 106 = some (.aload_n 0, 1, 0, 0, 0, .null) := by decide +kernel
theorem f12_107 : am_tab 12 107 = some (.iload 11, 2, 0, 0, 0, .null) := by decide +kernel
theorem f12_109 : am_tab 12 109 = some (.iconst 3, 1, 0, 0, 0, .null) := by decide +kernel
theorem f12_110 : am_tab 12 110 = some (.invokevirtual 42, 3, 112, 3, 2031, .int 0) := by decide +kernel
theorem f12_113 : am_tab 12 113 = some (.iload 9, 2, 0, 0, 0, .null) := by decide +kernel
theorem f12_115 : am_tab 12 115 = some (.if_icmp .ne 22, 3, 137, 0, 0, .null) := by decide +kernel
theorem f12_118 : am_tab 12 118 = some (.aload_n 0, 1, 0, 0, 0, .null) := by decide +kernel
theorem f12_119 : am_tab 12 119 = some (.iload 11, 2, 0, 0, 0, .null) := by decide +kernel
theorem f12_121 : am_tab 12 121 = some (.iconst 4, 1, 0, 0, 0, .null) := by decide +kernel
theorem f12_122 : am_tab 12 122 = some (.invokevirtual 42, 3, 112, 3, 2031, .int 0) := by decide +kernel
theorem f12_125 : am_tab 12 125 = some (.aload 5, 2, 0, 0, 0, .null) := by decide +kernel
theorem f12_127 : am_tab 12 127 = some (.iload 11, 2, 0, 0, 0, .null) := by decide +kernel
theorem f12_129 : am_tab 12 129 = some (.iaload, 1, 0, 0, 0, .null) := by decide +kernel
theorem f12_130 : am_tab 12 130 = some (.if_icmp .ne 7, 3, 137, 0, 0, .null) := by decide +kernel
theorem f12_133 : am_tab 12 133 = some (.iconst 1, 1, 0, 0, 0, .null) := by decide +kernel
theorem f12_134 : am_tab 12 134 = some (.goto 4, 3, 138, 0, 0, .null) := by decide +kernel
theorem f12_137 : am_tab 12 137 = some (.iconst 0, 1, 0, 0, 0, .null) := by decide +kernel
theorem f12_138 : am_tab 12 138 = some (.istore 10, 2, 0, 0, 0, .null) := by decide +kernel
theorem f12_140 : am_tab 12 140 = some (.iinc 11 1, 3, 0, 0, 0, .null) := by decide +kernel
theorem f12_143 : am_tab 12 143 = some (.goto (-128), 3, 15, 0, 0, .null) := by decide +kernel
theorem f12_146 : am_tab 12 146 = some (.iload 10, 2, 0, 0, 0, .null) := by decide +kernel
theorem f12_148 : am_tab 12 148 = some (.ifCond .eq 93, 3, 241, 0, 0, .null) := by decide +kernel
theorem f12_151 : am_tab 12 151 = some (.aload_n 0, 1, 0, 0, 0, .null) := by decide +kernel
theorem f12_152 : am_tab 12 152 = some (.iconst 0, 1, 0, 0, 0, .null) := by decide +kernel
theorem f12_153 : am_tab 12 153 = some (.invokevirtual 48, 3, 111, 2, 2145, .int 0) := by decide +kernel
theorem f12_156 : am_tab 12 156 = some (.aload 4, 2, 0, 0, 0, .null) := by decide +kernel
theorem f12_158 : am_tab 12 158 = some (.invokestatic 30, 3, 3, 1, 2025, .int 2) := by decide +kernel
theorem f12_161 : am_tab 12 161 = some (.if_icmp .ne 80, 3, 241, 0, 0, .null) := by decide +kernel
theorem f12_164 : am_tab 12 164 = some (.aload_n 0, 1, 0, 0, 0, .null) := by decide +kernel
theorem f12_165 : am_tab 12 165 = some (.iconst 1, 1, 0, 0, 0, .null) := by decide +kernel
theorem f12_166 : am_tab 12 166 = some (.invokevirtual 48, 3, 111, 2, 2145, .int 0) := by decide +kernel
theorem f12_169 : am_tab 12 169 = some (.iload 7, 2, 0, 0, 0, .null) := by decide +kernel
theorem f12_171 : am_tab 12 171 = some (.if_icmp .ne 70, 3, 241, 0, 0, .null) := by decide +kernel
theorem f12_174 : am_tab 12 174 = some (.aload_n 0, 1, 0, 0, 0, .null) := by decide +kernel
theorem f12_175 : am_tab 12 175 = some (.iconst 2, 1, 0, 0, 0, .null) := by decide +kernel
theorem f12_176 : am_tab 12 176 = some (.invokevirtual 48, 3, 111, 2, 2145, .int 0) := by decide +kernel
theorem f12_179 : am_tab 12 179 = some (.aload_n 1, 1, 0, 0, 0, .null) := by decide +kernel
theorem f12_180 : am_tab 12 180 = some (.iconst 0, 1, 0, 0, 0, .null) := by decide +kernel
theorem f12_181 : am_tab 12 181 = some (.bipush 48, 2, 0, 0, 0, .null) := by decide +kernel
theorem f12_183 : am_tab 12 183 = some (.invokestatic 15, 3, 5, 3, 2174, .int 2) := by decide +kernel
theorem f12_186 : am_tab 12 186 = some (.if_icmp .ne 55, 3, 241, 0, 0, .null) := by decide +kernel
theorem f12_189 : am_tab 12 189 = some (.aload_n 0, 1, 0, 0, 0, .null) := by decide +kernel
theorem f12_190 : am_tab 12 190 = some (.iconst 3, 1, 0, 0, 0, .null) := by decide +kernel
theorem f12_191 : am_tab 12 191 = some (.invokevirtual 48, 3, 111, 2, 2145, .int 0) := by decide +kernel
theorem f12_194 : am_tab 12 194 = some (.aload_n 1, 1, 0, 0, 0, .null) := by decide +kernel
theorem f12_195 : am_tab 12 195 = some (.iconst 0, 1, 0, 0, 0, .null) := by decide +kernel
theorem f12_196 : am_tab 12 196 = some (.bipush 48, 2, 0, 0, 0, .null) := by decide +kernel
theorem f12_198 : am_tab 12 198 = some (.invokestatic 15, 3, 5, 3, 2174, .int 2) := by decide +kernel
theorem f12_201 : am_tab 12 201 = some (.aload_n 1, 1, 0, 0, 0, .null) := by decide +kernel
theorem f12_202 : am_tab 12 202 = some (.aload_n 2, 1, 0, 0, 0, .null) := by decide +kernel
theorem f12_203 : am_tab 12 203 = some (.iconst 0, 1, 0, 0, 0, .null) := by decide +kernel
theorem f12_204 : am_tab 12 204 = some (.bipush 48, 2, 0, 0, 0, .null) := by decide +kernel
theorem f12_206 : am_tab 12 206 = some (.invokestatic 23, 3, 6, 4, 2177, .int 2) := by decide +kernel
theorem f12_209 : am_tab 12 209 = some (.isub, 1, 0, 0, 0, .null) := by decide +kernel
theorem f12_210 : am_tab 12 210 = some (.if_icmp .ne 31, 3, 241, 0, 0, .null) := by decide +kernel
theorem f12_213 : am_tab 12 213 = some (.aload_n 0, 1, 0, 0, 0, .null) := by decide +kernel
theorem f12_214 : am_tab 12 214 = some (.iconst 4, 1, 0, 0, 0, .null) := by decide +kernel
theorem f12_215 : am_tab 12 215 = some (.invokevirtual 48, 3, 111, 2, 2145, .int 0) := by decide +kernel
theorem f12_218 : am_tab 12 218 = some (.aload 6, 2, 0, 0, 0, .null) := by decide +kernel
theorem f12_220 : am_tab 12 220 = some (.iconst 0, 1, 0, 0, 0, .null) := by decide +kernel
theorem f12_221 : am_tab 12 221 = some (.iaload, 1, 0, 0, 0, .null) := by decide +kernel
theorem f12_222 : am_tab 12 222 = some (.if_icmp .ne 19, 3, 241, 0, 0, .null) := by decide +kernel
theorem f12_225 : am_tab 12 225 = some (.aload_n 0, 1, 0, 0, 0, .null) := by decide +kernel
theorem f12_226 : am_tab 12 226 = some (.iconst 5, 1, 0, 0, 0, .null) := by decide +kernel
theorem f12_227 : am_tab 12 227 = some (.invokevirtual 48, 3, 111, 2, 2145, .int 0) := by decide +kernel
theorem f12_230 : am_tab 12 230 = some (.aload 6, 2, 0, 0, 0, .null) := by decide +kernel
theorem f12_232 : am_tab 12 232 = some (.iconst 1, 1, 0, 0, 0, .null) := by decide +kernel
theorem f12_233 : am_tab 12 233 = some (.iaload, 1, 0, 0, 0, .null) := by decide +kernel
theorem f12_234 : am_tab 12 234 = some (.if_icmp .ne 7, 3, 241, 0, 0, .null) := by decide +kernel
theorem f12_237 : am_tab 12 237 = some (.iconst 1, 1, 0, 0, 0, .null) := by decide +kernel
theorem f12_238 : am_tab 12 238 = some (.goto 4, 3, 242, 0, 0, .null) := by decide +kernel
theorem f12_241 : am_tab 12 241 = some (.iconst 0, 1, 0, 0, 0, .null) := by decide +kernel
theorem f12_242 : am_tab 12 242 = some (.istore 10, 2, 0, 0, 0, .null) := by decide +kernel
theorem f12_244 : am_tab 12 244 = some (.iload 10, 2, 0, 0, 0, .null) := by decide +kernel
theorem f12_246 : am_tab 12 246 = some (.ifCond .eq 70, 3, 316, 0, 0, .null) := by decide +kernel
theorem f12_249 : am_tab 12 249 = some (.aload_n 0, 1, 0, 0, 0, .null) := by decide +kernel
theorem f12_250 : am_tab 12 250 = some (.bipush 6, 2, 0, 0, 0, .null) := by decide +kernel
theorem f12_252 : am_tab 12 252 = some (.invokevirtual 48, 3, 111, 2, 2145, .int 0) := by decide +kernel
theorem f12_255 : am_tab 12 255 = some (.aload 6, 2, 0, 0, 0, .null) := by decide +kernel
theorem f12_257 : am_tab 12 257 = some (.iconst 3, 1, 0, 0, 0, .null) := by decide +kernel
theorem f12_258 : am_tab 12 258 = some (.iaload, 1, 0, 0, 0, .null) := by decide +kernel
theorem f12_259 : am_tab 12 259 = some (.if_icmp .ne 57, 3, 316, 0, 0, .null) := by decide +kernel
theorem f12_262 : am_tab 12 262 = some (.aload_n 0, 1, 0, 0, 0, .null) := by decide +kernel
theorem f12_263 : am_tab 12 263 = some (.bipush 7, 2, 0, 0, 0, .null) := by decide +kernel
theorem f12_265 : am_tab 12 265 = some (.invokevirtual 48, 3, 111, 2, 2145, .int 0) := by decide +kernel
theorem f12_268 : am_tab 12 268 = some (.aload 6, 2, 0, 0, 0, .null) := by decide +kernel
theorem f12_270 : am_tab 12 270 = some (.iconst 4, 1, 0, 0, 0, .null) := by decide +kernel
theorem f12_271 : am_tab 12 271 = some (.iaload, 1, 0, 0, 0, .null) := by decide +kernel
theorem f12_272 : am_tab 12 272 = some (.if_icmp .ne 44, 3, 316, 0, 0, .null) := by decide +kernel
theorem f12_275 : am_tab 12 275 = some (.aload_n 0, 1, 0, 0, 0, .null) := by decide +kernel
theorem f12_276 : am_tab 12 276 = some (.bipush 8, 2, 0, 0, 0, .null) := by decide +kernel
theorem f12_278 : am_tab 12 278 = some (.invokevirtual 48, 3, 111, 2, 2145, .int 0) := by decide +kernel
theorem f12_281 : am_tab 12 281 = some (.aload 6, 2, 0, 0, 0, .null) := by decide +kernel
theorem f12_283 : am_tab 12 283 = some (.iconst 5, 1, 0, 0, 0, .null) := by decide +kernel
theorem f12_284 : am_tab 12 284 = some (.iaload, 1, 0, 0, 0, .null) := by decide +kernel
theorem f12_285 : am_tab 12 285 = some (.if_icmp .ne 31, 3, 316, 0, 0, .null) := by decide +kernel
theorem f12_288 : am_tab 12 288 = some (.aload_n 0, 1, 0, 0, 0, .null) := by decide +kernel
theorem f12_289 : am_tab 12 289 = some (.bipush 9, 2, 0, 0, 0, .null) := by decide +kernel
theorem f12_291 : am_tab 12 291 = some (.invokevirtual 48, 3, 111, 2, 2145, .int 0) := by decide +kernel
theorem f12_294 : am_tab 12 294 = some (.aload 6, 2, 0, 0, 0, .null) := by decide +kernel
theorem f12_296 : am_tab 12 296 = some (.iconst 2, 1, 0, 0, 0, .null) := by decide +kernel
theorem f12_297 : am_tab 12 297 = some (.iaload, 1, 0, 0, 0, .null) := by decide +kernel
theorem f12_298 : am_tab 12 298 = some (.if_icmp .ne 18, 3, 316, 0, 0, .null) := by decide +kernel
theorem f12_301 : am_tab 12 301 = some (.aload_n 0, 1, 0, 0, 0, .null) := by decide +kernel
theorem f12_302 : am_tab 12 302 = some (.bipush 10, 2, 0, 0, 0, .null) := by decide +kernel
theorem f12_304 : am_tab 12 304 = some (.invokevirtual 48, 3, 111, 2, 2145, .int 0) := by decide +kernel
theorem f12_307 : am_tab 12 307 = some (.iload 8, 2, 0, 0, 0, .null) := by decide +kernel
theorem f12_309 : am_tab 12 309 = some (.if_icmp .ne 7, 3, 316, 0, 0, .null) := by decide +kernel
theorem f12_312 : am_tab 12 312 = some (.iconst 1, 1, 0, 0, 0, .null) := by decide +kernel
theorem f12_313 : am_tab 12 313 = some (.goto 4, 3, 317, 0, 0, .null) := by decide +kernel
theorem f12_316 : am_tab 12 316 = some (.iconst 0, 1, 0, 0, 0, .null) := by decide +kernel
theorem f12_317 : am_tab 12 317 = some (.ireturn, 1, 0, 0, 0, .null) := by decide +kernel
theorem f13_0 : am_tab 13 0 = some (.aload_n 1, 1, 0, 0, 0, .null) := by decide +kernel
theorem f13_1 : am_tab 13 1 = some (.iload_n 2, 1, 0, 0, 0, .null) := by decide +kernel
theorem f13_2 : am_tab 13 2 = some (.iload_n 3, 1, 0, 0, 0, .null) := by decide +kernel
theorem f13_3 : am_tab 13 3 = some (.invokestatic 15, 3, 5, 3, 2174, .int 2) := by decide +kernel
theorem f13_6 : am_tab 13 6 = some (.istore 6, 2, 0, 0, 0, .null) := by decide +kernel
theorem f13_8 : am_tab 13 8 = some (.iload 5, 2, 0, 0, 0, .null) := by decide +kernel
theorem f13_10 : am_tab 13 10 = some (.iload 6, 2, 0, 0, 0, .null) := by decide +kernel
theorem f13_12 : am_tab 13 12 = some (.iload 5, 2, 0, 0, 0, .null) := by decide +kernel
theorem f13_14 : am_tab 13 14 = some (.isub, 1, 0, 0, 0, .null) := by decide +kernel
theorem f13_15 : am_tab 13 15 = some (.if_icmp .ge 8, 3, 23, 0, 0, .null) := by decide +kernel
theorem f13_18 : am_tab 13 18 = some (.iload 5, 2, 0, 0, 0, .null) := by decide +kernel
theorem f13_20 : am_tab 13 20 = some (.goto 8, 3, 28, 0, 0, .null) := by decide +kernel
theorem f13_23 : am_tab 13 23 = some (.iload 6, 2, 0, 0, 0, .null) := by decide +kernel
theorem f13_25 : am_tab 13 25 = some (.iload 5, 2, 0, 0, 0, .null) := by decide +kernel
theorem f13_27 : am_tab 13 27 = some (.isub, 1, 0, 0, 0, .null) := by decide +kernel
theorem f13_28 : am_tab 13 28 = some (.istore 7, 2, 0, 0, 0, .null) := by decide +kernel
theorem f13_30 : am_tab 13 30 = some (.iload 7, 2, 0, 0, 0, .null) := by decide +kernel
theorem f13_32 : am_tab 13 32 = some (.ifCond .ge 18, 3, 50, 0, 0, .null) := by decide +kernel
theorem f13_35 : am_tab 13 35 = some (.aload_n 0, 1, 0, 0, 0, .null) := by decide +kernel
theorem f13_36 : am_tab 13 36 = some (.iload 4, 2, 0, 0, 0, .null) := by decide +kernel
theorem f13_38 : am_tab 13 38 = some (.invokevirtual 52, 3, 128, 2, 2228, .int 0) := by decide +kernel
theorem f13_41 : am_tab 13 41 = some (.ifCond .ne 7, 3, 48, 0, 0, .null) := by decide +kernel
theorem f13_44 : am_tab 13 44 = some (.iconst 1, 1, 0, 0, 0, .null) := by decide +kernel
theorem f13_45 : am_tab 13 45 = some (.goto 4, 3, 49, 0, 0, .null) := by decide +kernel
theorem f13_48 : am_tab 13 48 = some (.iconst 0, 1, 0, 0, 0, .null) := by decide +kernel
theorem f13_49 : am_tab 13 49 = some (.ireturn, 1, 0, 0, 0, .null) := by decide +kernel
theorem f13_50 : am_tab 13 50 = some (.iload 7, 2, 0, 0, 0, .null) := by decide +kernel
theorem f13_52 : am_tab 13 52 = some (.bipush 63, 2, 0, 0, 0, .null) := by decide +kernel
theorem f13_54 : am_tab 13 54 = some (.if_icmp .le 18, 3, 72, 0, 0, .null) := by decide +kernel
theorem f13_57 : am_tab 13 57 = some (.aload_n 0, 1, 0, 0, 0, .null) := by decide +kernel
theorem f13_58 : am_tab 13 58 = some (.iload 4, 2, 0, 0, 0, .null) := by decide +kernel
theorem f13_60 : am_tab 13 60 = some (.invokevirtual 52, 3, 128, 2, 2228, .int 0) := by decide +kernel
theorem f13_63 : am_tab 13 63 = some (.ifCond .lt 7, 3, 70, 0, 0, .null) := by decide +kernel
theorem f13_66 : am_tab 13 66 = some (.iconst 1, 1, 0, 0, 0, .null) := by decide +kernel
theorem f13_67 : am_tab 13 67 = some (.goto 4, 3, 71, 0, 0, .null) := by decide +kernel
theorem f13_70 : am_tab 13 70 = some (.iconst 0, 1, 0, 0, 0, .null) := by decide +kernel
theorem f13_71 : am_tab 13 71 = some (.ireturn, 1, 0, 0, 0, .null) := by decide +kernel
theorem f13_72 : am_tab 13 72 = some (.lconst 1, 1, 0, 0, 0, .null) := by decide +kernel
theorem f13_73 : am_tab 13 73 = some (.lstore 8, 2, 0, 0, 0, .null) := by decide +kernel
theorem f13_75 : am_tab 13 75 = some (.iload_n 2, 1, 0, 0, 0, .null) := by decide +kernel
theorem f13_76 : am_tab 13 76 = some (.istore 10, 2, 0, 0, 0, .null) := by decide +kernel
theorem f13_78 : am_tab 13 78 = some (.iload 10, 2, 0, 0, 0, .null) := by decide +kernel
theorem f13_80 : am_tab 13 80 = some (.iload_n 3, 1, 0, 0, 0, .null) := by decide +kernel
theorem f13_81 : am_tab 13 81 = some (.if_icmp .ge 34, 3, 115, 0, 0, .null) := by decide +kernel
theorem f13_84 : am_tab 13 84 = some (.lload 8, 2, 0, 0, 0, .null) := by decide +kernel
theorem f13_86 : am_tab 13 86 = some (.aload_n 1, 1, 0, 0, 0, .null) := by decide +kernel
theorem f13_87 : am_tab 13 87 = some (.iload 10, 2, 0, 0, 0, .null) := by decide +kernel
theorem f13_89 : am_tab 13 89 = some (.iaload, 1, 0, 0, 0, .null) := by decide +kernel
theorem f13_90 : am_tab 13 90 = some (.bipush 64, 2, 0, 0, 0, .null) := by decide +kernel
theorem f13_92 : am_tab 13 92 = some (.if_icmp .ge 13, 3, 105, 0, 0, .null) := by decide +kernel
theorem f13_95 : am_tab 13 95 = some (.lload 8, 2, 0, 0, 0, .null) := by decide +kernel
theorem f13_97 : am_tab 13 97 = some (.aload_n 1, 1, 0, 0, 0, .null) := by decide +kernel
theorem f13_98 : am_tab 13 98 = some (.iload 10, 2, 0, 0, 0, .null) := by decide +kernel
theorem f13_100 : am_tab 13 100 = some (.iaload, 1, 0, 0, 0, .null) := by decide +kernel
theorem f13_101 : am_tab 13 101 = some (.lshl, 1, 0, 0, 0, .null) := by decide +kernel
theorem f13_102 : am_tab 13 102 = some (.goto 4, 3, 106, 0, 0, .null) := by decide +kernel
theorem f13_105 : am_tab 13 105 = some (.lconst 0, 1, 0, 0, 0, .null) := by decide +kernel
theorem f13_106 : am_tab 13 106 = some (.lor, 1, 0, 0, 0, .null) := by decide +kernel
theorem f13_107 : am_tab 13 107 = some (.lstore 8, 2, 0, 0, 0, .null) := by decide +kernel
theorem f13_109 : am_tab 13 109 = some (.iinc 10 1, 3, 0, 0, 0, .null) := by decide +kernel
theorem f13_112 : am_tab 13 112 = some (.goto (-34), 3, 78, 0, 0, .null) := by decide +kernel
theorem f13_115 : am_tab 13 115 = some (.aload_n 0, 1, 0, 0, 0, .null) := by decide +kernel
theorem f13_116 : am_tab 13 116 = some (.iload 4, 2, 0, 0, 0, .null) := by decide +kernel
theorem f13_118 : am_tab 13 118 = some (.invokevirtual 52, 3, 128, 2, 2228, .int 0) := by decide +kernel
theorem f13_121 : am_tab 13 121 = some (.lload 8, 2, 0, 0, 0, .null) := by decide +kernel
theorem f13_123 : am_tab 13 123 = some (.iload 7, 2, 0, 0, 0, .null) := by decide +kernel
theorem f13_125 : am_tab 13 125 = some (.lushr, 1, 0, 0, 0, .null) := by decide +kernel
theorem f13_126 : am_tab 13 126 = some (.lconst 1, 1, 0, 0, 0, .null) := by decide +kernel
theorem f13_127 : am_tab 13 127 = some (.land, 1, 0, 0, 0, .null) := by decide +kernel
theorem f13_128 : am_tab 13 128 = some (.l2i, 1, 0, 0, 0, .null) := by decide +kernel
theorem f13_129 : am_tab 13 129 = some (.if_icmp .ne 7, 3, 136, 0, 0, .null) := by decide +kernel
theorem f13_132 : am_tab 13 132 = some (.iconst 1, 1, 0, 0, 0, .null) := by decide +kernel
theorem f13_133 : am_tab 13 133 = some (.goto 4, 3, 137, 0, 0, .null) := by decide +kernel
theorem f13_136 : am_tab 13 136 = some (.iconst 0, 1, 0, 0, 0, .null) := by decide +kernel
theorem f13_137 : am_tab 13 137 = some (.ireturn, 1, 0, 0, 0, .null) := by decide +kernel
theorem f14_0 : am_tab 14 0 = some (.iconst (-1), 1, 0, 0, 0, .null) := by decide +kernel
theorem f14_1 : am_tab 14 1 = some (.istore 6, 2, 0, 0, 0, .null) := by decide +kernel
theorem f14_3 : am_tab 14 3 = some (.iconst 0, 1, 0, 0, 0, .null) := by decide +kernel
theorem f14_4 : am_tab 14 4 = some (.istore 7, 2, 0, 0, 0, .null) := by decide +kernel
theorem f14_6 : am_tab 14 6 = some (.iconst 1, 1, 0, 0, 0, .null) := by decide +kernel
theorem f14_7 : am_tab 14 7 = some (.istore 8, 2, 0, 0, 0, .null) := by decide +kernel
theorem f14_9 : am_tab 14 9 = some (.iconst 0, 1, 0, 0, 0, .null) := by decide +kernel
theorem f14_10 : am_tab 14 10 = some (.istore 9, 2, 0, 0, 0, .null) := by decide +kernel
theorem f14_12 : am_tab 14 12 = some (.iload 9, 2, 0, 0, 0, .null) := by decide +kernel
theorem f14_14 : am_tab 14 14 = some (.aload_n 3, 1, 0, 0, 0, .null) := by decide +kernel
theorem f14_15 : am_tab 14 15 = some (.invokestatic 30, 3, 3, 1, 2025, .int 2) := by decide +kernel
theorem f14_18 : am_tab 14 18 = some (.if_icmp .ge 238, 3, 256, 0, 0, .null) := by decide +kernel
theorem f14_21 : am_tab 14 21 = some (.iload 8, 2, 0, 0, 0, .null) := by decide +kernel
theorem f14_23 : am_tab 14 23 = some (.ifCond .eq 233, 3, 256, 0, 0, .null) := by decide +kernel
theorem f14_26 : am_tab 14 26 = some (.aload_n 3, 1, 0, 0, 0, .null) := by decide +kernel
theorem f14_27 : am_tab 14 27 = some (.iload 9, 2, 0, 0, 0, .null) := by decide +kernel
theorem f14_29 : am_tab 14 29 = some (.invokestatic 34, 3, 4, 2, 2183, .int 2) := by decide +kernel
theorem f14_32 : am_tab 14 32 = some (.istore 10, 2, 0, 0, 0, .null) := by decide +kernel
theorem f14_34 : am_tab 14 34 = some (.aload_n 3, 1, 0, 0, 0, .null) := by decide +kernel
theorem f14_35 : am_tab 14 35 = some (.iload 9, 2, 0, 0, 0, .null) := by decide +kernel
theorem f14_37 : am_tab 14 37 = some (.iconst 1, 1, 0, 0, 0, .null) := by decide +kernel
theorem f14_38 : am_tab 14 38 = some (.iadd, 1, 0, 0, 0, .null) := by decide +kernel
theorem f14_39 : am_tab 14 39 = some (.invokestatic 34, 3, 4, 2, 2183, .int 2) := by decide +kernel
theorem f14_42 : am_tab 14 42 = some (.istore 11, 2, 0, 0, 0, .null) := by decide +kernel
theorem f14_44 : am_tab 14 44 = some (.aload_n 1, 1, 0, 0, 0, .null) := by decide +kernel
theorem f14_45 : am_tab 14 45 = some (.iload 10, 2, 0, 0, 0, .null) := by decide +kernel
theorem f14_47 : am_tab 14 47 = some (.iload 11, 2, 0, 0, 0, .null) := by decide +kernel
theorem f14_49 : am_tab 14 49 = some (.invokestatic 15, 3, 5, 3, 2174, .int 2) := by decide +kernel
theorem f14_52 : am_tab 14 52 = some (.aload_n 1, 1, 0, 0, 0, .null) := by decide +kernel
theorem f14_53 : am_tab 14 53 = some (.aload_n 2, 1, 0, 0, 0, .null) := by decide +kernel
theorem f14_54 : am_tab 14 54 = some (.iload 10, 2, 0, 0, 0, .null) := by decide +kernel
theorem f14_56 : am_tab 14 56 = some (.iload 11, 2, 0, 0, 0, .null) := by decide +kernel
theorem f14_58 : am_tab 14 58 = some (.invokestatic 23, 3, 6, 4, 2177, .int 2) := by decide +kernel
theorem f14_61 : am_tab 14 61 = some (.isub, 1, 0, 0, 0, .null) := by decide +kernel
theorem f14_62 : am_tab 14 62 = some (.istore 12, 2, 0, 0, 0, .null) := by decide +kernel
theorem f14_64 : am_tab 14 64 = some (.aload 4, 2, 0, 0, 0, .null) := by decide +kernel
theorem f14_66 : am_tab 14 66 = some (.iload 9, 2, 0, 0, 0, .null) := by decide +kernel
theorem f14_68 : am_tab 14 68 = some (.iaload, 1, 0, 0, 0, .null) := by decide +kernel
theorem f14_69 : am_tab 14 69 = some (.iload 12, 2, 0, 0, 0, .null) := by decide +kernel
theorem f14_71 : am_tab 14 71 = some (.if_icmp .le 14, 3, 85, 0, 0, .null) := by decide +kernel
theorem f14_74 : am_tab 14 74 = some (.aload 4, 2, 0, 0, 0, .null) := by decide +kernel
theorem f14_76 : am_tab 14 76 = some (.iload 9, 2, 0, 0, 0, .null) := by decide +kernel
theorem f14_78 : am_tab 14 78 = some (.iaload, 1, 0, 0, 0, .null) := by decide +kernel
theorem f14_79 : am_tab 14 79 = some (.iload 12, 2, 0, 0, 0, .null) := by decide +kernel
theorem f14_81 : am_tab 14 81 = some (.isub, 1, 0, 0, 0, .null) := by decide +kernel
theorem f14_82 : am_tab 14 82 = some (.goto 11, 3, 93, 0, 0, .null) := by decide +kernel
theorem f14_85 : am_tab 14 85 = some (.iload 12, 2, 0, 0, 0, .null) := by decide +kernel
theorem f14_87 : am_tab 14 87 = some (.aload 4, 2, 0, 0, 0, .null) := by decide +kernel
theorem f14_89 : am_tab 14 89 = some (.iload 9, 2, 0, 0, 0, .null) := by decide +kernel
theorem f14_91 : am_tab 14 91 = some (.iaload, 1, 0, 0, 0, .null) := by decide +kernel
theorem f14_92 : am_tab 14 92 = some (.isub, 1, 0, 0, 0, .null) := by decide +kernel
theorem f14_93 : am_tab 14 93 = some (.istore 13, 2, 0, 0, 0, .null) := by decide +kernel
theorem f14_95 : am_tab 14 95 = some (.iload 13, 2, 0, 0, 0, .null) := by decide +kernel
theorem f14_97 : am_tab 14 97 = some (.iload 7, 2, 0, 0, 0, .null) := by decide +kernel
theorem f14_99 : am_tab 14 99 = some (.if_icmp .le 8, 3, 107, 0, 0, .null) := by decide +kernel
theorem f14_102 : am_tab 14 102 = some (.iload 9, 2, 0, 0, 0, .null) := by decide +kernel
theorem f14_104 : am_tab 14 104 = some (.goto 5, 3, 109, 0, 0, .null) := by decide +kernel
theorem f14_107 : am_tab 14 107 = some (.iload 6, 2, 0, 0, 0, .null) := by decide +kernel
theorem f14_109 : am_tab 14 109 = some (.istore 6, 2, 0, 0, 0, .null) := by decide +kernel
theorem f14_111 : am_tab 14 111 = some (.iload 13, 2, 0, 0, 0, .null) := by decide +kernel
theorem f14_113 : am_tab 14 113 = some (.iload 7, 2, 0, 0, 0, .null) := by decide +kernel
theorem f14_115 : am_tab 14 115 = some (.if_icmp .le 8, 3, 123, 0, 0, .null) := by decide +kernel
theorem f14_118 : am_tab 14 118 = some (.iload 13, 2, 0, 0, 0, .null) := by decide +kernel
theorem f14_120 : am_tab 14 120 = some (.goto 5, 3, 125, 0, 0, .null) := by decide +kernel
theorem f14_123 : am_tab 14 123 = some (.iload 7, 2, 0, 0, 0, .null) := by decide +kernel
theorem f14_125 : am_tab 14 125 = some (.istore 7, 2, 0, 0, 0, .null) := by decide +kernel
theorem f14_127 : am_tab 14 127 = some (.aload_n 0, 1, 0, 0, 0, .null) := by decide +kernel
theorem f14_128 : am_tab 14 128 = some (.iload 9, 2, 0, 0, 0, .null) := by decide +kernel
theorem f14_130 : am_tab 14 130 = some (.iconst 0, 1, 0, 0, 0, .null) := by decide +kernel
theorem f14_131 : am_tab 14 131 = some (.invokevirtual 55, 3, 113, 3, 2186, .int 0) := by decide +kernel
theorem f14_134 : am_tab 14 134 = some (.iload 10, 2, 0, 0, 0, .null) := by decide +kernel
theorem f14_136 : am_tab 14 136 = some (.if_icmp .ne 111, 3, 247, 0, 0, .null) := by decide +kernel
theorem f14_139 : am_tab 14 139 = some (.aload_n 0, 1, 0, 0, 0, .null) := by decide +kernel
theorem f14_140 : am_tab 14 140 = some (.iload 9, 2, 0, 0, 0, .null) := by decide +kernel
theorem f14_142 : am_tab 14 142 = some (.iconst 1, 1, 0, 0, 0, .null) := by decide +kernel
theorem f14_143 : am_tab 14 143 = some (.invokevirtual 55, 3, 113, 3, 2186, .int 0) := by decide +kernel
theorem f14_146 : am_tab 14 146 = some (.iload 11, 2, 0, 0, 0, .null) := by decide +kernel
theorem f14_148 : am_tab 14 148 = some (.iload 10, 2, 0, 0, 0, .null) := by decide +kernel
theorem f14_150 : am_tab 14 150 = some (.isub, 1, 0, 0, 0, .null) := by decide +kernel
theorem f14_151 : am_tab 14 151 = some (.if_icmp .ne 96, 3, 247, 0, 0, .null) := by decide +kernel
theorem f14_154 : am_tab 14 154 = some (.aload_n 0, 1, 0, 0, 0, .null) := by decide +kernel
theorem f14_155 : am_tab 14 155 = some (.iload 9, 2, 0, 0, 0, .null) := by decide +kernel
theorem f14_157 : am_tab 14 157 = some (.iconst 2, 1, 0, 0, 0, .null) := by decide +kernel
theorem f14_158 : am_tab 14 158 = some (.invokevirtual 55, 3, 113, 3, 2186, .int 0) := by decide +kernel
theorem f14_161 : am_tab 14 161 = some (.aload_n 1, 1, 0, 0, 0, .null) := by decide +kernel
theorem f14_162 : am_tab 14 162 = some (.iload 10, 2, 0, 0, 0, .null) := by decide +kernel
theorem f14_164 : am_tab 14 164 = some (.iload 11, 2, 0, 0, 0, .null) := by decide +kernel
theorem f14_166 : am_tab 14 166 = some (.invokestatic 15, 3, 5, 3, 2174, .int 2) := by decide +kernel
theorem f14_169 : am_tab 14 169 = some (.if_icmp .ne 78, 3, 247, 0, 0, .null) := by decide +kernel
theorem f14_172 : am_tab 14 172 = some (.aload_n 0, 1, 0, 0, 0, .null) := by decide +kernel
theorem f14_173 : am_tab 14 173 = some (.iload 9, 2, 0, 0, 0, .null) := by decide +kernel
theorem f14_175 : am_tab 14 175 = some (.iconst 3, 1, 0, 0, 0, .null) := by decide +kernel
theorem f14_176 : am_tab 14 176 = some (.invokevirtual 55, 3, 113, 3, 2186, .int 0) := by decide +kernel
theorem f14_179 : am_tab 14 179 = some (.iload 12, 2, 0, 0, 0, .null) := by decide +kernel
theorem f14_181 : am_tab 14 181 = some (.if_icmp .ne 66, 3, 247, 0, 0, .null) := by decide +kernel
theorem f14_184 : am_tab 14 184 = some (.aload_n 0, 1, 0, 0, 0, .null) := by decide +kernel
theorem f14_185 : am_tab 14 185 = some (.iload 9, 2, 0, 0, 0, .null) := by decide +kernel
theorem f14_187 : am_tab 14 187 = some (.iconst 4, 1, 0, 0, 0, .null) := by decide +kernel
theorem f14_188 : am_tab 14 188 = some (.invokevirtual 55, 3, 113, 3, 2186, .int 0) := by decide +kernel
theorem f14_191 : am_tab 14 191 = some (.aload 4, 2, 0, 0, 0, .null) := by decide +kernel
theorem f14_193 : am_tab 14 193 = some (.bipush 12, 2, 0, 0, 0, .null) := by decide +kernel
theorem f14_195 : am_tab 14 195 = some (.iload 9, 2, 0, 0, 0, .null) := by decide +kernel
theorem f14_197 : am_tab 14 197 = some (.iadd, 1, 0, 0, 0, .null) := by decide +kernel
theorem f14_198 : am_tab 14 198 = some (.iaload, 1, 0, 0, 0, .null) := by decide +kernel
theorem f14_199 : am_tab 14 199 = some (.if_icmp .ne 48, 3, 247, 0, 0, .null) := by decide +kernel
theorem f14_202 : am_tab 14 202 = some (.aload 5, 2, 0, 0, 0, .null) := by decide +kernel
theorem f14_204 : am_tab 14 204 = some (.iconst 0, 1, 0, 0, 0, .null) := by decide +kernel
theorem f14_205 : am_tab 14 205 = some (.iaload, 1, 0, 0, 0, .null) := by decide +kernel
theorem f14_206 : am_tab 14 206 = some (.ifCond .eq 37, 3, 243, 0, 0, .null) := by decide +kernel
theorem f14_209 : am_tab 14 209 = some (.aload_n 0, 1, 0, 0, 0, .null) := by decide +kernel
theorem f14_210 : am_tab 14 210 = some (.iload 9, 2, 0, 0, 0, .null) := by decide +kernel
theorem f14_212 : am_tab 14 212 = some (.iconst 5, 1, 0, 0, 0, .null) := by decide +kernel
theorem f14_213 : am_tab 14 213 = some (.invokevirtual 55, 3, 113, 3, 2186, .int 0) := by decide +kernel
theorem f14_216 : am_tab 14 216 = some (.aload 4, 2, 0, 0, 0, .null) := by decide +kernel
theorem f14_218 : am_tab 14 218 = some (.iload 9, 2, 0, 0, 0, .null) := by decide +kernel
theorem f14_220 : am_tab 14 220 = some (.iaload, 1, 0, 0, 0, .null) := by decide +kernel
theorem f14_221 : am_tab 14 221 = some (.if_icmp .ne 26, 3, 247, 0, 0, .null) := by decide +kernel
theorem f14_224 : am_tab 14 224 = some (.aload_n 0, 1, 0, 0, 0, .null) := by decide +kernel
theorem f14_225 : am_tab 14 225 = some (.aload_n 1, 1, 0, 0, 0, .null) := by decide +kernel
theorem f14_226 : am_tab 14 226 = some (.iload 10, 2, 0, 0, 0, .null) := by decide +kernel
theorem f14_228 : am_tab 14 228 = some (.iload 11, 2, 0, 0, 0, .null) := by decide +kernel
theorem f14_230 : am_tab 14 230 = some (.iload 9, 2, 0, 0, 0, .null) := by decide +kernel
theorem f14_232 : am_tab 14 232 = some (.aload 4, 2, 0, 0, 0, .null) := by decide +kernel
theorem f14_234 : am_tab 14 234 = some (.iload 9, 2, 0, 0, 0, .null) := by decide +kernel
theorem f14_236 : am_tab 14 236 = some (.iaload, 1, 0, 0, 0, .null) := by decide +kernel
theorem f14_237 : am_tab 14 237 = some (.invokestatic 58, 3, 13, 6, 2225, .int 2) := by decide +kernel
theorem f14_240 : am_tab 14 240 = some (.ifCond .eq 7, 3, 247, 0, 0, .null) := by decide +kernel
theorem f14_243 : am_tab 14 243 = some (.iconst 1, 1, 0, 0, 0, .null) := by decide +kernel
theorem f14_244 : am_tab 14 244 = some (.goto 4, 3, 248, 0, 0, .null) := by decide +kernel
theorem f14_247 : am_tab 14 247 = some (.iconst 0, 1, 0, 0, 0, .null) := by decide +kernel
theorem f14_248 : am_tab 14 248 = some (.istore 8, 2, 0, 0, 0, .null) := by decide +kernel
theorem f14_250 : am_tab 14 250 = some (.iinc 9 1, 3, 0, 0, 0, .null) := by decide +kernel
theorem f14_253 : am_tab 14 253 = some (.goto (-241), 3, 12, 0, 0, .null) := by decide +kernel
theorem f14_256 : am_tab 14 256 = some (.iload 8, 2, 0, 0, 0, .null) := by decide +kernel
theorem f14_258 : am_tab 14 258 = some (.ifCond .eq 27, 3, 285, 0, 0, .null) := by decide +kernel
theorem f14_261 : am_tab 14 261 = some (.aload_n 0, 1, 0, 0, 0, .null) := by decide +kernel
theorem f14_262 : am_tab 14 262 = some (.invokevirtual 62, 3, 129, 1, 3007, .int 0) := by decide +kernel
theorem f14_265 : am_tab 14 265 = some (.aload 5, 2, 0, 0, 0, .null) := by decide +kernel
theorem f14_267 : am_tab 14 267 = some (.iconst 0, 1, 0, 0, 0, .null) := by decide +kernel
theorem f14_268 : am_tab 14 268 = some (.iaload, 1, 0, 0, 0, .null) := by decide +kernel
theorem f14_269 : am_tab 14 269 = some (.ifCond .ne 7, 3, 276, 0, 0, .null) := by decide +kernel
theorem f14_272 : am_tab 14 272 = some (.iconst (-1), 1, 0, 0, 0, .null) := by decide +kernel
theorem f14_273 : am_tab 14 273 = some (.goto 5, 3, 278, 0, 0, .null) := by decide +kernel
theorem f14_276 : am_tab 14 276 = some (.iload 6, 2, 0, 0, 0, .null) := by decide +kernel
theorem f14_278 : am_tab 14 278 = some (.if_icmp .ne 7, 3, 285, 0, 0, .null) := by decide +kernel
theorem f14_281 : am_tab 14 281 = some (.iconst 1, 1, 0, 0, 0, .null) := by decide +kernel
theorem f14_282 : am_tab 14 282 = some (.goto 4, 3, 286, 0, 0, .null) := by decide +kernel
theorem f14_285 : am_tab 14 285 = some (.iconst 0, 1, 0, 0, 0, .null) := by decide +kernel
theorem f14_286 : am_tab 14 286 = some (.ireturn, 1, 0, 0, 0, .null) := by decide +kernel
theorem f15_0 : am_tab 15 0 = some (.bipush 48, 2, 0, 0, 0, .null) := by decide +kernel
theorem f15_2 : am_tab 15 2 = some (.newarray .int, 2, 0, 0, 1086, .null) := by decide +kernel
theorem f15_4 : am_tab 15 4 = some (.astore 7, 2, 0, 0, 0, .null) := by decide +kernel
theorem f15_6 : am_tab 15 6 = some (.iconst (-1), 1, 0, 0, 0, .null) := by decide +kernel
theorem f15_7 : am_tab 15 7 = some (.istore 8, 2, 0, 0, 0, .null) := by decide +kernel
theorem f15_9 : am_tab 15 9 = some (.iconst 0, 1, 0, 0, 0, .null) := by decide +kernel
theorem f15_10 : am_tab 15 10 = some (.istore 9, 2, 0, 0, 0, .null) := by decide +kernel
theorem f15_12 : am_tab 15 12 = some (.iconst 1, 1, 0, 0, 0, .null) := by decide +kernel
theorem f15_13 : am_tab 15 13 = some (.istore 10, 2, 0, 0, 0, .null) := by decide +kernel
theorem f15_15 : am_tab 15 15 = some (.iconst 0, 1, 0, 0, 0, .null) := by decide +kernel
theorem f15_16 : am_tab 15 16 = some (.istore 11, 2, 0, 0, 0, .null) := by decide +kernel
theorem f15_18 : am_tab 15 18 = some (.iload 11, 2, 0, 0, 0, .null) := by decide +kernel
theorem f15_20 : am_tab 15 20 = some (.iconst 3, 1, 0, 0, 0, .null) := by decide +kernel
theorem f15_21 : am_tab 15 21 = some (.if_icmp .ge 208, 3, 229, 0, 0, .null) := by decide +kernel
theorem f15_24 : am_tab 15 24 = some (.iload 10, 2, 0, 0, 0, .null) := by decide +kernel
theorem f15_26 : am_tab 15 26 = some (.ifCond .eq 203, 3, 229, 0, 0, .null) := by decide +kernel
theorem f15_29 : am_tab 15 29 = some (.aload 6, 2, 0, 0, 0, .null) := by decide +kernel
theorem f15_31 : am_tab 15 31 = some (.iconst 2, 1, 0, 0, 0, .null) := by decide +kernel
theorem f15_32 : am_tab 15 32 = some (.iaload, 1, 0, 0, 0, .null) := by decide +kernel
theorem f15_33 : am_tab 15 33 = some (.ifCond .eq 11, 3, 44, 0, 0, .null) := by decide +kernel
theorem f15_36 : am_tab 15 36 = some (.aload 6, 2, 0, 0, 0, .null) := by decide +kernel
theorem f15_38 : am_tab 15 38 = some (.iconst 0, 1, 0, 0, 0, .null) := by decide +kernel
theorem f15_39 : am_tab 15 39 = some (.iaload, 1, 0, 0, 0, .null) := by decide +kernel
theorem f15_40 : am_tab 15 40 = some (.iconst 1, 1, 0, 0, 0, .null) := by decide +kernel
theorem f15_41 : am_tab 15 41 = some (.if_icmp .ne 188, 3, 229, 0, 0, .null) := by decide +kernel
theorem f15_44 : am_tab 15 44 = some (.aload_n 1, 1, 0, 0, 0, .null) := by decide +kernel
theorem f15_45 : am_tab 15 45 = some (.aload_n 2, 1, 0, 0, 0, .null) := by decide +kernel
theorem f15_46 : am_tab 15 46 = some (.aload_n 3, 1, 0, 0, 0, .null) := by decide +kernel
theorem f15_47 : am_tab 15 47 = some (.aload 4, 2, 0, 0, 0, .null) := by decide +kernel
theorem f15_49 : am_tab 15 49 = some (.aload 5, 2, 0, 0, 0, .null) := by decide +kernel
theorem f15_51 : am_tab 15 51 = some (.aload 6, 2, 0, 0, 0, .null) := by decide +kernel
theorem f15_53 : am_tab 15 53 = some (.iload 11, 2, 0, 0, 0, .null) := by decide +kernel
theorem f15_55 : am_tab 15 55 = some (.aload 7, 2, 0, 0, 0, .null) := by decide +kernel
theorem f15_57 : am_tab 15 57 = some (.invokestatic 66, 3, 11, 8, 3017, .int 2) := by decide +kernel
theorem f15_60 : am_tab 15 60 = some (.istore 12, 2, 0, 0, 0, .null) := by decide +kernel
theorem f15_62 : am_tab 15 62 = some (.iconst 0, 1, 0, 0, 0, .null) := by decide +kernel
theorem f15_63 : am_tab 15 63 = some (.istore 13, 2, 0, 0, 0, .null) := by decide +kernel
theorem f15_65 : am_tab 15 65 = some (.iconst 0, 1, 0, 0, 0, .null) := by decide +kernel
theorem f15_66 : am_tab 15 66 = some (.istore 14, 2, 0, 0, 0, .null) := by decide +kernel
theorem f15_68 : am_tab 15 68 = some (.iconst 0, 1, 0, 0, 0, .null) := by decide +kernel
theorem f15_69 : am_tab 15 69 = some (.istore 15, 2, 0, 0, 0, .null) := by decide +kernel
theorem f15_71 : am_tab 15 71 = some (.iconst 0, 1, 0, 0, 0, .null) := by decide +kernel
theorem f15_72 : am_tab 15 72 = some (.istore 16, 2, 0, 0, 0, .null) := by decide +kernel
theorem f15_74 : am_tab 15 74 = some (.iload 16, 2, 0, 0, 0, .null) := by decide +kernel
theorem f15_76 : am_tab 15 76 = some (.bipush 48, 2, 0, 0, 0, .null) := by decide +kernel
theorem f15_78 : am_tab 15 78 = some (.if_icmp .ge 53, 3, 131, 0, 0, .null) := by decide +kernel
theorem f15_81 : am_tab 15 81 = some (.iload 13, 2, 0, 0, 0, .null) := by decide +kernel
theorem f15_83 : am_tab 15 83 = some (.aload 7, 2, 0, 0, 0, .null) := by decide +kernel
theorem f15_85 : am_tab 15 85 = some (.iload 16, 2, 0, 0, 0, .null) := by decide +kernel
theorem f15_87 : am_tab 15 87 = some (.iaload, 1, 0, 0, 0, .null) := by decide +kernel
theorem f15_88 : am_tab 15 88 = some (.iadd, 1, 0, 0, 0, .null) := by decide +kernel
theorem f15_89 : am_tab 15 89 = some (.istore 13, 2, 0, 0, 0, .null) := by decide +kernel
theorem f15_91 : am_tab 15 91 = some (.iload 14, 2, 0, 0, 0, .null) := by decide +kernel
theorem f15_93 : am_tab 15 93 = some (.aload 7, 2, 0, 0, 0, .null) := by decide +kernel
theorem f15_95 : am_tab 15 95 = some (.iload 16, 2, 0, 0, 0, .null) := by decide +kernel
theorem f15_97 : am_tab 15 97 = some (.iaload, 1, 0, 0, 0, .null) := by decide +kernel
theorem f15_98 : am_tab 15 98 = some (.iconst 1, 1, 0, 0, 0, .null) := by decide +kernel
theorem f15_99 : am_tab 15 99 = some (.aload_n 2, 1, 0, 0, 0, .null) := by decide +kernel
theorem f15_100 : am_tab 15 100 = some (.iload 16, 2, 0, 0, 0, .null) := by decide +kernel
theorem f15_102 : am_tab 15 102 = some (.iaload, 1, 0, 0, 0, .null) := by decide +kernel
theorem f15_103 : am_tab 15 103 = some (.isub, 1, 0, 0, 0, .null) := by decide +kernel
theorem f15_104 : am_tab 15 104 = some (.imul, 1, 0, 0, 0, .null) := by decide +kernel
theorem f15_105 : am_tab 15 105 = some (.iadd, 1, 0, 0, 0, .null) := by decide +kernel
theorem f15_106 : am_tab 15 106 = some (.istore 14, 2, 0, 0, 0, .null) := by decide +kernel
theorem f15_108 : am_tab 15 108 = some (.iload 15, 2, 0, 0, 0, .null) := by decide +kernel
theorem f15_110 : am_tab 15 110 = some (.iconst 1, 1, 0, 0, 0, .null) := by decide +kernel
theorem f15_111 : am_tab 15 111 = some (.aload 7, 2, 0, 0, 0, .null) := by decide +kernel
theorem f15_113 : am_tab 15 113 = some (.iload 16, 2, 0, 0, 0, .null) := by decide +kernel
theorem f15_115 : am_tab 15 115 = some (.iaload, 1, 0, 0, 0, .null) := by decide +kernel
theorem f15_116 : am_tab 15 116 = some (.isub, 1, 0, 0, 0, .null) := by decide +kernel
theorem f15_117 : am_tab 15 117 = some (.aload_n 2, 1, 0, 0, 0, .null) := by decide +kernel
theorem f15_118 : am_tab 15 118 = some (.iload 16, 2, 0, 0, 0, .null) := by decide +kernel
theorem f15_120 : am_tab 15 120 = some (.iaload, 1, 0, 0, 0, .null) := by decide +kernel
theorem f15_121 : am_tab 15 121 = some (.imul, 1, 0, 0, 0, .null) := by decide +kernel
theorem f15_122 : am_tab 15 122 = some (.iadd, 1, 0, 0, 0, .null) := by decide +kernel
theorem f15_123 : am_tab 15 123 = some (.istore 15, 2, 0, 0, 0, .null) := by decide +kernel
theorem f15_125 : am_tab 15 125 = some (.iinc 16 1, 3, 0, 0, 0, .null) := by decide +kernel
theorem f15_128 : am_tab 15 128 = some (.goto (-54), 3, 74, 0, 0, .null) := by decide +kernel
theorem f15_131 : am_tab 15 131 = some (.iload 8, 2, 0, 0, 0, .null) := by decide +kernel
theorem f15_133 : am_tab 15 133 = some (.ifCond .lt 10, 3, 143, 0, 0, .null) := by decide +kernel
theorem f15_136 : am_tab 15 136 = some (.iload 12, 2, 0, 0, 0, .null) := by decide +kernel
theorem f15_138 : am_tab 15 138 = some (.iload 9, 2, 0, 0, 0, .null) := by decide +kernel
theorem f15_140 : am_tab 15 140 = some (.if_icmp .ge 8, 3, 148, 0, 0, .null) := by decide +kernel
theorem f15_143 : am_tab 15 143 = some (.iload 11, 2, 0, 0, 0, .null) := by decide +kernel
theorem f15_145 : am_tab 15 145 = some (.goto 5, 3, 150, 0, 0, .null) := by decide +kernel
theorem f15_148 : am_tab 15 148 = some (.iload 8, 2, 0, 0, 0, .null) := by decide +kernel
theorem f15_150 : am_tab 15 150 = some (.istore 8, 2, 0, 0, 0, .null) := by decide +kernel
theorem f15_152 : am_tab 15 152 = some (.iload 8, 2, 0, 0, 0, .null) := by decide +kernel
theorem f15_154 : am_tab 15 154 = some (.iload 11, 2, 0, 0, 0, .null) := by decide +kernel
theorem f15_156 : am_tab 15 156 = some (.if_icmp .ne 8, 3, 164, 0, 0, .null) := by decide +kernel
theorem f15_159 : am_tab 15 159 = some (.iload 12, 2, 0, 0, 0, .null) := by decide +kernel
theorem f15_161 : am_tab 15 161 = some (.goto 5, 3, 166, 0, 0, .null) := by decide +kernel
theorem f15_164 : am_tab 15 164 = some (.iload 9, 2, 0, 0, 0, .null) := by decide +kernel
theorem f15_166 : am_tab 15 166 = some (.istore 9, 2, 0, 0, 0, .null) := by decide +kernel
theorem f15_168 : am_tab 15 168 = some (.aload_n 0, 1, 0, 0, 0, .null) := by decide +kernel
theorem f15_169 : am_tab 15 169 = some (.iload 11, 2, 0, 0, 0, .null) := by decide +kernel
theorem f15_171 : am_tab 15 171 = some (.iconst 0, 1, 0, 0, 0, .null) := by decide +kernel
theorem f15_172 : am_tab 15 172 = some (.invokevirtual 70, 3, 123, 3, 3032, .int 0) := by decide +kernel
theorem f15_175 : am_tab 15 175 = some (.iload 12, 2, 0, 0, 0, .null) := by decide +kernel
theorem f15_177 : am_tab 15 177 = some (.if_icmp .ne 43, 3, 220, 0, 0, .null) := by decide +kernel
theorem f15_180 : am_tab 15 180 = some (.aload_n 0, 1, 0, 0, 0, .null) := by decide +kernel
theorem f15_181 : am_tab 15 181 = some (.iload 11, 2, 0, 0, 0, .null) := by decide +kernel
theorem f15_183 : am_tab 15 183 = some (.iconst 1, 1, 0, 0, 0, .null) := by decide +kernel
theorem f15_184 : am_tab 15 184 = some (.invokevirtual 70, 3, 123, 3, 3032, .int 0) := by decide +kernel
theorem f15_187 : am_tab 15 187 = some (.iload 13, 2, 0, 0, 0, .null) := by decide +kernel
theorem f15_189 : am_tab 15 189 = some (.if_icmp .ne 31, 3, 220, 0, 0, .null) := by decide +kernel
theorem f15_192 : am_tab 15 192 = some (.aload_n 0, 1, 0, 0, 0, .null) := by decide +kernel
theorem f15_193 : am_tab 15 193 = some (.iload 11, 2, 0, 0, 0, .null) := by decide +kernel
theorem f15_195 : am_tab 15 195 = some (.iconst 2, 1, 0, 0, 0, .null) := by decide +kernel
theorem f15_196 : am_tab 15 196 = some (.invokevirtual 70, 3, 123, 3, 3032, .int 0) := by decide +kernel
theorem f15_199 : am_tab 15 199 = some (.iload 14, 2, 0, 0, 0, .null) := by decide +kernel
theorem f15_201 : am_tab 15 201 = some (.if_icmp .ne 19, 3, 220, 0, 0, .null) := by decide +kernel
theorem f15_204 : am_tab 15 204 = some (.aload_n 0, 1, 0, 0, 0, .null) := by decide +kernel
theorem f15_205 : am_tab 15 205 = some (.iload 11, 2, 0, 0, 0, .null) := by decide +kernel
theorem f15_207 : am_tab 15 207 = some (.iconst 3, 1, 0, 0, 0, .null) := by decide +kernel
theorem f15_208 : am_tab 15 208 = some (.invokevirtual 70, 3, 123, 3, 3032, .int 0) := by decide +kernel
theorem f15_211 : am_tab 15 211 = some (.iload 15, 2, 0, 0, 0, .null) := by decide +kernel
theorem f15_213 : am_tab 15 213 = some (.if_icmp .ne 7, 3, 220, 0, 0, .null) := by decide +kernel
theorem f15_216 : am_tab 15 216 = some (.iconst 1, 1, 0, 0, 0, .null) := by decide +kernel
theorem f15_217 : am_tab 15 217 = some (.goto 4, 3, 221, 0, 0, .null) := by decide +kernel
theorem f15_220 : am_tab 15 220 = some (.iconst 0, 1, 0, 0, 0, .null) := by decide +kernel
theorem f15_221 : am_tab 15 221 = some (.istore 10, 2, 0, 0, 0, .null) := by decide +kernel
theorem f15_223 : am_tab 15 223 = some (.iinc 11 1, 3, 0, 0, 0, .null) := by decide +kernel
theorem f15_226 : am_tab 15 226 = some (.goto (-208), 3, 18, 0, 0, .null) := by decide +kernel
theorem f15_229 : am_tab 15 229 = some (.iload 10, 2, 0, 0, 0, .null) := by decide +kernel
theorem f15_231 : am_tab 15 231 = some (.ifCond .eq 16, 3, 247, 0, 0, .null) := by decide +kernel
theorem f15_234 : am_tab 15 234 = some (.aload_n 0, 1, 0, 0, 0, .null) := by decide +kernel
theorem f15_235 : am_tab 15 235 = some (.invokevirtual 73, 3, 124, 1, 3080, .int 0) := by decide +kernel
theorem f15_238 : am_tab 15 238 = some (.iload 8, 2, 0, 0, 0, .null) := by decide +kernel
theorem f15_240 : am_tab 15 240 = some (.if_icmp .ne 7, 3, 247, 0, 0, .null) := by decide +kernel
theorem f15_243 : am_tab 15 243 = some (.iconst 1, 1, 0, 0, 0, .null) := by decide +kernel
theorem f15_244 : am_tab 15 244 = some (.goto 4, 3, 248, 0, 0, .null) := by decide +kernel
theorem f15_247 : am_tab 15 247 = some (.iconst 0, 1, 0, 0, 0, .null) := by decide +kernel
theorem f15_248 : am_tab 15 248 = some (.ireturn, 1, 0, 0, 0, .null) := by decide +kernel
theorem f16_0 : am_tab 16 0 = some (.bipush 48, 2, 0, 0, 0, .null) := by decide +kernel
theorem f16_2 : am_tab 16 2 = some (.newarray .int, 2, 0, 0, 1086, .null) := by decide +kernel
theorem f16_4 : am_tab 16 4 = some (.astore 5, 2, 0, 0, 0, .null) := by decide +kernel
theorem f16_6 : am_tab 16 6 = some (.aload_n 3, 1, 0, 0, 0, .null) := by decide +kernel
theorem f16_7 : am_tab 16 7 = some (.iload 4, 2, 0, 0, 0, .null) := by decide +kernel
theorem f16_9 : am_tab 16 9 = some (.invokestatic 34, 3, 4, 2, 2183, .int 2) := by decide +kernel
theorem f16_12 : am_tab 16 12 = some (.istore 6, 2, 0, 0, 0, .null) := by decide +kernel
theorem f16_14 : am_tab 16 14 = some (.aload_n 3, 1, 0, 0, 0, .null) := by decide +kernel
theorem f16_15 : am_tab 16 15 = some (.iload 4, 2, 0, 0, 0, .null) := by decide +kernel
theorem f16_17 : am_tab 16 17 = some (.iconst 1, 1, 0, 0, 0, .null) := by decide +kernel
theorem f16_18 : am_tab 16 18 = some (.iadd, 1, 0, 0, 0, .null) := by decide +kernel
theorem f16_19 : am_tab 16 19 = some (.invokestatic 34, 3, 4, 2, 2183, .int 2) := by decide +kernel
theorem f16_22 : am_tab 16 22 = some (.istore 7, 2, 0, 0, 0, .null) := by decide +kernel
theorem f16_24 : am_tab 16 24 = some (.iconst 1, 1, 0, 0, 0, .null) := by decide +kernel
theorem f16_25 : am_tab 16 25 = some (.istore 8, 2, 0, 0, 0, .null) := by decide +kernel
theorem f16_27 : am_tab 16 27 = some (.iconst 0, 1, 0, 0, 0, .null) := by decide +kernel
theorem f16_28 : am_tab 16 28 = some (.istore 9, 2, 0, 0, 0, .null) := by decide +kernel
theorem f16_30 : am_tab 16 30 = some (.iload 9, 2, 0, 0, 0, .null) := by decide +kernel
theorem f16_32 : am_tab 16 32 = some (.iconst 3, 1, 0, 0, 0, .null) := by decide +kernel
theorem f16_33 : am_tab 16 33 = some (.if_icmp .ge 202, 3, 235, 0, 0, .null) := by decide +kernel
theorem f16_36 : am_tab 16 36 = some (.iload 8, 2, 0, 0, 0, .null) := by decide +kernel
theorem f16_38 : am_tab 16 38 = some (.ifCond .eq 197, 3, 235, 0, 0, .null) := by decide +kernel
theorem f16_41 : am_tab 16 41 = some (.iconst 0, 1, 0, 0, 0, .null) := by decide +kernel
theorem f16_42 : am_tab 16 42 = some (.istore 10, 2, 0, 0, 0, .null) := by decide +kernel
theorem f16_44 : am_tab 16 44 = some (.iconst 0, 1, 0, 0, 0, .null) := by decide +kernel
theorem f16_45 : am_tab 16 45 = some (.istore 11, 2, 0, 0, 0, .null) := by decide +kernel
theorem f16_47 : am_tab 16 47 = some (.iload 6, 2, 0, 0, 0, .null) := by decide +kernel
theorem f16_49 : am_tab 16 49 = some (.istore 12, 2, 0, 0, 0, .null) := by decide +kernel
theorem f16_51 : am_tab 16 51 = some (.iload 12, 2, 0, 0, 0, .null) := by decide +kernel
theorem f16_53 : am_tab 16 53 = some (.iload 7, 2, 0, 0, 0, .null) := by decide +kernel
theorem f16_55 : am_tab 16 55 = some (.if_icmp .ge 128, 3, 183, 0, 0, .null) := by decide +kernel
theorem f16_58 : am_tab 16 58 = some (.iload 6, 2, 0, 0, 0, .null) := by decide +kernel
theorem f16_60 : am_tab 16 60 = some (.istore 13, 2, 0, 0, 0, .null) := by decide +kernel
theorem f16_62 : am_tab 16 62 = some (.iload 7, 2, 0, 0, 0, .null) := by decide +kernel
theorem f16_64 : am_tab 16 64 = some (.istore 14, 2, 0, 0, 0, .null) := by decide +kernel
theorem f16_66 : am_tab 16 66 = some (.aload 5, 2, 0, 0, 0, .null) := by decide +kernel
theorem f16_68 : am_tab 16 68 = some (.iload 12, 2, 0, 0, 0, .null) := by decide +kernel
theorem f16_70 : am_tab 16 70 = some (.iconst 0, 1, 0, 0, 0, .null) := by decide +kernel
theorem f16_71 : am_tab 16 71 = some (.iastore, 1, 0, 0, 0, .null) := by decide +kernel
theorem f16_72 : am_tab 16 72 = some (.iload 14, 2, 0, 0, 0, .null) := by decide +kernel
theorem f16_74 : am_tab 16 74 = some (.iload 13, 2, 0, 0, 0, .null) := by decide +kernel
theorem f16_76 : am_tab 16 76 = some (.iconst 1, 1, 0, 0, 0, .null) := by decide +kernel
theorem f16_77 : am_tab 16 77 = some (.iadd, 1, 0, 0, 0, .null) := by decide +kernel
theorem f16_78 : am_tab 16 78 = some (.if_icmp .le 60, 3, 138, 0, 0, .null) := by decide +kernel
theorem f16_81 : am_tab 16 81 = some (.aload_n 1, 1, 0, 0, 0, .null) := by decide +kernel
theorem f16_82 : am_tab 16 82 = some (.aload_n 2, 1, 0, 0, 0, .null) := by decide +kernel
theorem f16_83 : am_tab 16 83 = some (.iload 13, 2, 0, 0, 0, .null) := by decide +kernel
theorem f16_85 : am_tab 16 85 = some (.iload 14, 2, 0, 0, 0, .null) := by decide +kernel
theorem f16_87 : am_tab 16 87 = some (.iload 9, 2, 0, 0, 0, .null) := by decide +kernel
theorem f16_89 : am_tab 16 89 = some (.invokestatic 19, 3, 8, 5, 3023, .int 2) := by decide +kernel
theorem f16_92 : am_tab 16 92 = some (.istore 15, 2, 0, 0, 0, .null) := by decide +kernel
theorem f16_94 : am_tab 16 94 = some (.iload 12, 2, 0, 0, 0, .null) := by decide +kernel
theorem f16_96 : am_tab 16 96 = some (.iload 15, 2, 0, 0, 0, .null) := by decide +kernel
theorem f16_98 : am_tab 16 98 = some (.if_icmp .ge 8, 3, 106, 0, 0, .null) := by decide +kernel
theorem f16_101 : am_tab 16 101 = some (.iload 13, 2, 0, 0, 0, .null) := by decide +kernel
theorem f16_103 : am_tab 16 103 = some (.goto 5, 3, 108, 0, 0, .null) := by decide +kernel
theorem f16_106 : am_tab 16 106 = some (.iload 15, 2, 0, 0, 0, .null) := by decide +kernel
theorem f16_108 : am_tab 16 108 = some (.istore 13, 2, 0, 0, 0, .null) := by decide +kernel
theorem f16_110 : am_tab 16 110 = some (.iload 12, 2, 0, 0, 0, .null) := by decide +kernel
theorem f16_112 : am_tab 16 112 = some (.iload 15, 2, 0, 0, 0, .null) := by decide +kernel
theorem f16_114 : am_tab 16 114 = some (.if_icmp .ge 8, 3, 122, 0, 0, .null) := by decide +kernel
theorem f16_117 : am_tab 16 117 = some (.iload 15, 2, 0, 0, 0, .null) := by decide +kernel
theorem f16_119 : am_tab 16 119 = some (.goto 5, 3, 124, 0, 0, .null) := by decide +kernel
theorem f16_122 : am_tab 16 122 = some (.iload 14, 2, 0, 0, 0, .null) := by decide +kernel
theorem f16_124 : am_tab 16 124 = some (.istore 14, 2, 0, 0, 0, .null) := by decide +kernel
theorem f16_126 : am_tab 16 126 = some (.aload 5, 2, 0, 0, 0, .null) := by decide +kernel
theorem f16_128 : am_tab 16 128 = some (.iload 12, 2, 0, 0, 0, .null) := by decide +kernel
theorem f16_130 : am_tab 16 130 = some (.dup2, 1, 0, 0, 0, .null) := by decide +kernel
theorem f16_131 : am_tab 16 131 = some (.iaload, 1, 0, 0, 0, .null) := by decide +kernel
theorem f16_132 : am_tab 16 132 = some (.iconst 1, 1, 0, 0, 0, .null) := by decide +kernel
theorem f16_133 : am_tab 16 133 = some (.iadd, 1, 0, 0, 0, .null) := by decide +kernel
theorem f16_134 : am_tab 16 134 = some (.iastore, 1, 0, 0, 0, .null) := by decide +kernel
theorem f16_135 : am_tab 16 135 = some (.goto (-63), 3, 72, 0, 0, .null) := by decide +kernel
theorem f16_138 : am_tab 16 138 = some (.aload 5, 2, 0, 0, 0, .null) := by decide +kernel
theorem f16_140 : am_tab 16 140 = some (.iload 12, 2, 0, 0, 0, .null) := by decide +kernel
theorem f16_142 : am_tab 16 142 = some (.iaload, 1, 0, 0, 0, .null) := by decide +kernel
theorem f16_143 : am_tab 16 143 = some (.iload 10, 2, 0, 0, 0, .null) := by decide +kernel
theorem f16_145 : am_tab 16 145 = some (.if_icmp .le 11, 3, 156, 0, 0, .null) := by decide +kernel
theorem f16_148 : am_tab 16 148 = some (.aload 5, 2, 0, 0, 0, .null) := by decide +kernel
theorem f16_150 : am_tab 16 150 = some (.iload 12, 2, 0, 0, 0, .null) := by decide +kernel
theorem f16_152 : am_tab 16 152 = some (.iaload, 1, 0, 0, 0, .null) := by decide +kernel
theorem f16_153 : am_tab 16 153 = some (.goto 5, 3, 158, 0, 0, .null) := by decide +kernel
theorem f16_156 : am_tab 16 156 = some (.iload 10, 2, 0, 0, 0, .null) := by decide +kernel
theorem f16_158 : am_tab 16 158 = some (.istore 10, 2, 0, 0, 0, .null) := by decide +kernel
theorem f16_160 : am_tab 16 160 = some (.iload 11, 2, 0, 0, 0, .null) := by decide +kernel
theorem f16_162 : am_tab 16 162 = some (.aload 5, 2, 0, 0, 0, .null) := by decide +kernel
theorem f16_164 : am_tab 16 164 = some (.iload 12, 2, 0, 0, 0, .null) := by decide +kernel
theorem f16_166 : am_tab 16 166 = some (.iaload, 1, 0, 0, 0, .null) := by decide +kernel
theorem f16_167 : am_tab 16 167 = some (.iconst 1, 1, 0, 0, 0, .null) := by decide +kernel
theorem f16_168 : am_tab 16 168 = some (.aload_n 2, 1, 0, 0, 0, .null) := by decide +kernel
theorem f16_169 : am_tab 16 169 = some (.iload 12, 2, 0, 0, 0, .null) := by decide +kernel
theorem f16_171 : am_tab 16 171 = some (.iaload, 1, 0, 0, 0, .null) := by decide +kernel
theorem f16_172 : am_tab 16 172 = some (.iadd, 1, 0, 0, 0, .null) := by decide +kernel
theorem f16_173 : am_tab 16 173 = some (.imul, 1, 0, 0, 0, .null) := by decide +kernel
theorem f16_174 : am_tab 16 174 = some (.iadd, 1, 0, 0, 0, .null) := by decide +kernel
theorem f16_175 : am_tab 16 175 = some (.istore 11, 2, 0, 0, 0, .null) := by decide +kernel
theorem f16_177 : am_tab 16 177 = some (.iinc 12 1, 3, 0, 0, 0, .null) := by decide +kernel
theorem f16_180 : am_tab 16 180 = some (.goto (-129), 3, 51, 0, 0, .null) := by decide +kernel
theorem f16_183 : am_tab 16 183 = some (.aload_n 0, 1, 0, 0, 0, .null) := by decide +kernel
theorem f16_184 : am_tab 16 184 = some (.iload 4, 2, 0, 0, 0, .null) := by decide +kernel
theorem f16_186 : am_tab 16 186 = some (.iload 9, 2, 0, 0, 0, .null) := by decide +kernel
theorem f16_188 : am_tab 16 188 = some (.iconst 0, 1, 0, 0, 0, .null) := by decide +kernel
theorem f16_189 : am_tab 16 189 = some (.invokevirtual 76, 3, 125, 4, 3087, .int 0) := by decide +kernel
theorem f16_192 : am_tab 16 192 = some (.iload 10, 2, 0, 0, 0, .null) := by decide +kernel
theorem f16_194 : am_tab 16 194 = some (.if_icmp .ne 32, 3, 226, 0, 0, .null) := by decide +kernel
theorem f16_197 : am_tab 16 197 = some (.aload_n 0, 1, 0, 0, 0, .null) := by decide +kernel
theorem f16_198 : am_tab 16 198 = some (.iload 4, 2, 0, 0, 0, .null) := by decide +kernel
theorem f16_200 : am_tab 16 200 = some (.iload 9, 2, 0, 0, 0, .null) := by decide +kernel
theorem f16_202 : am_tab 16 202 = some (.iconst 1, 1, 0, 0, 0, .null) := by decide +kernel
theorem f16_203 : am_tab 16 203 = some (.invokevirtual 76, 3, 125, 4, 3087, .int 0) := by decide +kernel
theorem f16_206 : am_tab 16 206 = some (.iload 11, 2, 0, 0, 0, .null) := by decide +kernel
theorem f16_208 : am_tab 16 208 = some (.if_icmp .ne 18, 3, 226, 0, 0, .null) := by decide +kernel
theorem f16_211 : am_tab 16 211 = some (.aload_n 0, 1, 0, 0, 0, .null) := by decide +kernel
theorem f16_212 : am_tab 16 212 = some (.iload 4, 2, 0, 0, 0, .null) := by decide +kernel
theorem f16_214 : am_tab 16 214 = some (.invokevirtual 80, 3, 126, 2, 3105, .int 0) := by decide +kernel
theorem f16_217 : am_tab 16 217 = some (.iload 11, 2, 0, 0, 0, .null) := by decide +kernel
theorem f16_219 : am_tab 16 219 = some (.if_icmp .gt 7, 3, 226, 0, 0, .null) := by decide +kernel
theorem f16_222 : am_tab 16 222 = some (.iconst 1, 1, 0, 0, 0, .null) := by decide +kernel
theorem f16_223 : am_tab 16 223 = some (.goto 4, 3, 227, 0, 0, .null) := by decide +kernel
theorem f16_226 : am_tab 16 226 = some (.iconst 0, 1, 0, 0, 0, .null) := by decide +kernel
theorem f16_227 : am_tab 16 227 = some (.istore 8, 2, 0, 0, 0, .null) := by decide +kernel
theorem f16_229 : am_tab 16 229 = some (.iinc 9 1, 3, 0, 0, 0, .null) := by decide +kernel
theorem f16_232 : am_tab 16 232 = some (.goto (-202), 3, 30, 0, 0, .null) := by decide +kernel
theorem f16_235 : am_tab 16 235 = some (.iload 8, 2, 0, 0, 0, .null) := by decide +kernel
theorem f16_237 : am_tab 16 237 = some (.ifCond .eq 37, 3, 274, 0, 0, .null) := by decide +kernel
theorem f16_240 : am_tab 16 240 = some (.iload 7, 2, 0, 0, 0, .null) := by decide +kernel
theorem f16_242 : am_tab 16 242 = some (.iload 6, 2, 0, 0, 0, .null) := by decide +kernel
theorem f16_244 : am_tab 16 244 = some (.isub, 1, 0, 0, 0, .null) := by decide +kernel
theorem f16_245 : am_tab 16 245 = some (.bipush 7, 2, 0, 0, 0, .null) := by decide +kernel
theorem f16_247 : am_tab 16 247 = some (.if_icmp .gt 23, 3, 270, 0, 0, .null) := by decide +kernel
theorem f16_250 : am_tab 16 250 = some (.aload_n 0, 1, 0, 0, 0, .null) := by decide +kernel
theorem f16_251 : am_tab 16 251 = some (.iload 4, 2, 0, 0, 0, .null) := by decide +kernel
theorem f16_253 : am_tab 16 253 = some (.invokevirtual 80, 3, 126, 2, 3105, .int 0) := by decide +kernel
theorem f16_256 : am_tab 16 256 = some (.aload_n 2, 1, 0, 0, 0, .null) := by decide +kernel
theorem f16_257 : am_tab 16 257 = some (.iload 6, 2, 0, 0, 0, .null) := by decide +kernel
theorem f16_259 : am_tab 16 259 = some (.iload 7, 2, 0, 0, 0, .null) := by decide +kernel
theorem f16_261 : am_tab 16 261 = some (.iload 6, 2, 0, 0, 0, .null) := by decide +kernel
theorem f16_263 : am_tab 16 263 = some (.isub, 1, 0, 0, 0, .null) := by decide +kernel
theorem f16_264 : am_tab 16 264 = some (.invokestatic 83, 3, 17, 3, 3130, .int 2) := by decide +kernel
theorem f16_267 : am_tab 16 267 = some (.if_icmp .ne 7, 3, 274, 0, 0, .null) := by decide +kernel
theorem f16_270 : am_tab 16 270 = some (.iconst 1, 1, 0, 0, 0, .null) := by decide +kernel
theorem f16_271 : am_tab 16 271 = some (.goto 4, 3, 275, 0, 0, .null) := by decide +kernel
theorem f16_274 : am_tab 16 274 = some (.iconst 0, 1, 0, 0, 0, .null) := by decide +kernel
theorem f16_275 : am_tab 16 275 = some (.ireturn, 1, 0, 0, 0, .null) := by decide +kernel
theorem f17_0 : am_tab 17 0 = some (.bipush 64, 2, 0, 0, 0, .null) := by decide +kernel
theorem f17_2 : am_tab 17 2 = some (.newarray .int, 2, 0, 0, 1086, .null) := by decide +kernel
theorem f17_4 : am_tab 17 4 = some (.astore_n 3, 1, 0, 0, 0, .null) := by decide +kernel
theorem f17_5 : am_tab 17 5 = some (.iconst 2, 1, 0, 0, 0, .null) := by decide +kernel
theorem f17_6 : am_tab 17 6 = some (.istore 4, 2, 0, 0, 0, .null) := by decide +kernel
theorem f17_8 : am_tab 17 8 = some (.iload 4, 2, 0, 0, 0, .null) := by decide +kernel
theorem f17_10 : am_tab 17 10 = some (.iload_n 2, 1, 0, 0, 0, .null) := by decide +kernel
theorem f17_11 : am_tab 17 11 = some (.if_icmp .gt 150, 3, 161, 0, 0, .null) := by decide +kernel
theorem f17_14 : am_tab 17 14 = some (.iconst 0, 1, 0, 0, 0, .null) := by decide +kernel
theorem f17_15 : am_tab 17 15 = some (.istore 5, 2, 0, 0, 0, .null) := by decide +kernel
theorem f17_17 : am_tab 17 17 = some (.iload 5, 2, 0, 0, 0, .null) := by decide +kernel
theorem f17_19 : am_tab 17 19 = some (.iload 4, 2, 0, 0, 0, .null) := by decide +kernel
theorem f17_21 : am_tab 17 21 = some (.iadd, 1, 0, 0, 0, .null) := by decide +kernel
theorem f17_22 : am_tab 17 22 = some (.iload_n 2, 1, 0, 0, 0, .null) := by decide +kernel
theorem f17_23 : am_tab 17 23 = some (.if_icmp .gt 132, 3, 155, 0, 0, .null) := by decide +kernel
theorem f17_26 : am_tab 17 26 = some (.iconst (-1), 1, 0, 0, 0, .null) := by decide +kernel
theorem f17_27 : am_tab 17 27 = some (.istore 6, 2, 0, 0, 0, .null) := by decide +kernel
theorem f17_29 : am_tab 17 29 = some (.iconst 0, 1, 0, 0, 0, .null) := by decide +kernel
theorem f17_30 : am_tab 17 30 = some (.istore 7, 2, 0, 0, 0, .null) := by decide +kernel
theorem f17_32 : am_tab 17 32 = some (.iload 5, 2, 0, 0, 0, .null) := by decide +kernel
theorem f17_34 : am_tab 17 34 = some (.istore 8, 2, 0, 0, 0, .null) := by decide +kernel
theorem f17_36 : am_tab 17 36 = some (.iload 8, 2, 0, 0, 0, .null) := by decide +kernel
theorem f17_38 : am_tab 17 38 = some (.iload 5, 2, 0, 0, 0, .null) := by decide +kernel
theorem f17_40 : am_tab 17 40 = some (.iload 4, 2, 0, 0, 0, .null) := by decide +kernel
theorem f17_42 : am_tab 17 42 = some (.iadd, 1, 0, 0, 0, .null) := by decide +kernel
theorem f17_43 : am_tab 17 43 = some (.if_icmp .ge 91, 3, 134, 0, 0, .null) := by decide +kernel
theorem f17_46 : am_tab 17 46 = some (.iload 7, 2, 0, 0, 0, .null) := by decide +kernel
theorem f17_48 : am_tab 17 48 = some (.iconst 1, 1, 0, 0, 0, .null) := by decide +kernel
theorem f17_49 : am_tab 17 49 = some (.aload_n 0, 1, 0, 0, 0, .null) := by decide +kernel
theorem f17_50 : am_tab 17 50 = some (.iload_n 1, 1, 0, 0, 0, .null) := by decide +kernel
theorem f17_51 : am_tab 17 51 = some (.iload 8, 2, 0, 0, 0, .null) := by decide +kernel
theorem f17_53 : am_tab 17 53 = some (.iadd, 1, 0, 0, 0, .null) := by decide +kernel
theorem f17_54 : am_tab 17 54 = some (.iaload, 1, 0, 0, 0, .null) := by decide +kernel
theorem f17_55 : am_tab 17 55 = some (.iadd, 1, 0, 0, 0, .null) := by decide +kernel
theorem f17_56 : am_tab 17 56 = some (.iadd, 1, 0, 0, 0, .null) := by decide +kernel
theorem f17_57 : am_tab 17 57 = some (.istore 7, 2, 0, 0, 0, .null) := by decide +kernel
theorem f17_59 : am_tab 17 59 = some (.iload 8, 2, 0, 0, 0, .null) := by decide +kernel
theorem f17_61 : am_tab 17 61 = some (.iload 5, 2, 0, 0, 0, .null) := by decide +kernel
theorem f17_63 : am_tab 17 63 = some (.if_icmp .ne 7, 3, 70, 0, 0, .null) := by decide +kernel
theorem f17_66 : am_tab 17 66 = some (.iconst (-1), 1, 0, 0, 0, .null) := by decide +kernel
theorem f17_67 : am_tab 17 67 = some (.goto 33, 3, 100, 0, 0, .null) := by decide +kernel
theorem f17_70 : am_tab 17 70 = some (.aload_n 3, 1, 0, 0, 0, .null) := by decide +kernel
theorem f17_71 : am_tab 17 71 = some (.bipush 8, 2, 0, 0, 0, .null) := by decide +kernel
theorem f17_73 : am_tab 17 73 = some (.iload 5, 2, 0, 0, 0, .null) := by decide +kernel
theorem f17_75 : am_tab 17 75 = some (.imul, 1, 0, 0, 0, .null) := by decide +kernel
theorem f17_76 : am_tab 17 76 = some (.iload 8, 2, 0, 0, 0, .null) := by decide +kernel
theorem f17_78 : am_tab 17 78 = some (.iadd, 1, 0, 0, 0, .null) := by decide +kernel
theorem f17_79 : am_tab 17 79 = some (.iload 5, 2, 0, 0, 0, .null) := by decide +kernel
theorem f17_81 : am_tab 17 81 = some (.isub, 1, 0, 0, 0, .null) := by decide +kernel
theorem f17_82 : am_tab 17 82 = some (.iaload, 1, 0, 0, 0, .null) := by decide +kernel
theorem f17_83 : am_tab 17 83 = some (.aload_n 3, 1, 0, 0, 0, .null) := by decide +kernel
theorem f17_84 : am_tab 17 84 = some (.bipush 8, 2, 0, 0, 0, .null) := by decide +kernel
theorem f17_86 : am_tab 17 86 = some (.iload 8, 2, 0, 0, 0, .null) := by decide +kernel
theorem f17_88 : am_tab 17 88 = some (.imul, 1, 0, 0, 0, .null) := by decide +kernel
theorem f17_89 : am_tab 17 89 = some (.iload 5, 2, 0, 0, 0, .null) := by decide +kernel
theorem f17_91 : am_tab 17 91 = some (.iadd, 1, 0, 0, 0, .null) := by decide +kernel
theorem f17_92 : am_tab 17 92 = some (.iload 4, 2, 0, 0, 0, .null) := by decide +kernel
theorem f17_94 : am_tab 17 94 = some (.iadd, 1, 0, 0, 0, .null) := by decide +kernel
theorem f17_95 : am_tab 17 95 = some (.iload 8, 2, 0, 0, 0, .null) := by decide +kernel
theorem f17_97 : am_tab 17 97 = some (.isub, 1, 0, 0, 0, .null) := by decide +kernel
theorem f17_98 : am_tab 17 98 = some (.iaload, 1, 0, 0, 0, .null) := by decide +kernel
theorem f17_99 : am_tab 17 99 = some (.iadd, 1, 0, 0, 0, .null) := by decide +kernel
theorem f17_100 : am_tab 17 100 = some (.istore 9, 2, 0, 0, 0, .null) := by decide +kernel
theorem f17_102 : am_tab 17 102 = some (.iload 9, 2, 0, 0, 0, .null) := by decide +kernel
theorem f17_104 : am_tab 17 104 = some (.ifCond .lt 20, 3, 124, 0, 0, .null) := by decide +kernel
theorem f17_107 : am_tab 17 107 = some (.iload 6, 2, 0, 0, 0, .null) := by decide +kernel
theorem f17_109 : am_tab 17 109 = some (.ifCond .lt 10, 3, 119, 0, 0, .null) := by decide +kernel
theorem f17_112 : am_tab 17 112 = some (.iload 9, 2, 0, 0, 0, .null) := by decide +kernel
theorem f17_114 : am_tab 17 114 = some (.iload 6, 2, 0, 0, 0, .null) := by decide +kernel
theorem f17_116 : am_tab 17 116 = some (.if_icmp .ge 8, 3, 124, 0, 0, .null) := by decide +kernel
theorem f17_119 : am_tab 17 119 = some (.iload 9, 2, 0, 0, 0, .null) := by decide +kernel
theorem f17_121 : am_tab 17 121 = some (.goto 5, 3, 126, 0, 0, .null) := by decide +kernel
theorem f17_124 : am_tab 17 124 = some (.iload 6, 2, 0, 0, 0, .null) := by decide +kernel
theorem f17_126 : am_tab 17 126 = some (.istore 6, 2, 0, 0, 0, .null) := by decide +kernel
theorem f17_128 : am_tab 17 128 = some (.iinc 8 1, 3, 0, 0, 0, .null) := by decide +kernel
theorem f17_131 : am_tab 17 131 = some (.goto (-95), 3, 36, 0, 0, .null) := by decide +kernel
theorem f17_134 : am_tab 17 134 = some (.aload_n 3, 1, 0, 0, 0, .null) := by decide +kernel
theorem f17_135 : am_tab 17 135 = some (.bipush 8, 2, 0, 0, 0, .null) := by decide +kernel
theorem f17_137 : am_tab 17 137 = some (.iload 5, 2, 0, 0, 0, .null) := by decide +kernel
theorem f17_139 : am_tab 17 139 = some (.imul, 1, 0, 0, 0, .null) := by decide +kernel
theorem f17_140 : am_tab 17 140 = some (.iload 4, 2, 0, 0, 0, .null) := by decide +kernel
theorem f17_142 : am_tab 17 142 = some (.iadd, 1, 0, 0, 0, .null) := by decide +kernel
theorem f17_143 : am_tab 17 143 = some (.iload 6, 2, 0, 0, 0, .null) := by decide +kernel
theorem f17_145 : am_tab 17 145 = some (.iload 7, 2, 0, 0, 0, .null) := by decide +kernel
theorem f17_147 : am_tab 17 147 = some (.iadd, 1, 0, 0, 0, .null) := by decide +kernel
theorem f17_148 : am_tab 17 148 = some (.iastore, 1, 0, 0, 0, .null) := by decide +kernel
theorem f17_149 : am_tab 17 149 = some (.iinc 5 1, 3, 0, 0, 0, .null) := by decide +kernel
theorem f17_152 : am_tab 17 152 = some (.goto (-135), 3, 17, 0, 0, .null) := by decide +kernel
theorem f17_155 : am_tab 17 155 = some (.iinc 4 1, 3, 0, 0, 0, .null) := by decide +kernel
theorem f17_158 : am_tab 17 158 = some (.goto (-150), 3, 8, 0, 0, .null) := by decide +kernel
theorem f17_161 : am_tab 17 161 = some (.aload_n 3, 1, 0, 0, 0, .null) := by decide +kernel
theorem f17_162 : am_tab 17 162 = some (.iload_n 2, 1, 0, 0, 0, .null) := by decide +kernel
theorem f17_163 : am_tab 17 163 = some (.iaload, 1, 0, 0, 0, .null) := by decide +kernel
theorem f17_164 : am_tab 17 164 = some (.ireturn, 1, 0, 0, 0, .null) := by decide +kernel
theorem f18_0 : am_tab 18 0 = some (.iconst 1, 1, 0, 0, 0, .null) := by decide +kernel
theorem f18_1 : am_tab 18 1 = some (.istore_n 2, 1, 0, 0, 0, .null) := by decide +kernel
theorem f18_2 : am_tab 18 2 = some (.iload_n 1, 1, 0, 0, 0, .null) := by decide +kernel
theorem f18_3 : am_tab 18 3 = some (.istore_n 3, 1, 0, 0, 0, .null) := by decide +kernel
theorem f18_4 : am_tab 18 4 = some (.iconst 0, 1, 0, 0, 0, .null) := by decide +kernel
theorem f18_5 : am_tab 18 5 = some (.istore 4, 2, 0, 0, 0, .null) := by decide +kernel
theorem f18_7 : am_tab 18 7 = some (.iload 4, 2, 0, 0, 0, .null) := by decide +kernel
theorem f18_9 : am_tab 18 9 = some (.bipush 48, 2, 0, 0, 0, .null) := by decide +kernel
theorem f18_11 : am_tab 18 11 = some (.if_icmp .ge 60, 3, 71, 0, 0, .null) := by decide +kernel
theorem f18_14 : am_tab 18 14 = some (.aload_n 0, 1, 0, 0, 0, .null) := by decide +kernel
theorem f18_15 : am_tab 18 15 = some (.iload 4, 2, 0, 0, 0, .null) := by decide +kernel
theorem f18_17 : am_tab 18 17 = some (.iaload, 1, 0, 0, 0, .null) := by decide +kernel
theorem f18_18 : am_tab 18 18 = some (.iload_n 1, 1, 0, 0, 0, .null) := by decide +kernel
theorem f18_19 : am_tab 18 19 = some (.if_icmp .le 6, 3, 25, 0, 0, .null) := by decide +kernel
theorem f18_22 : am_tab 18 22 = some (.bipush 99, 2, 0, 0, 0, .null) := by decide +kernel
theorem f18_24 : am_tab 18 24 = some (.ireturn, 1, 0, 0, 0, .null) := by decide +kernel
theorem f18_25 : am_tab 18 25 = some (.iload_n 2, 1, 0, 0, 0, .null) := by decide +kernel
theorem f18_26 : am_tab 18 26 = some (.aload_n 0, 1, 0, 0, 0, .null) := by decide +kernel
theorem f18_27 : am_tab 18 27 = some (.iload 4, 2, 0, 0, 0, .null) := by decide +kernel
theorem f18_29 : am_tab 18 29 = some (.iaload, 1, 0, 0, 0, .null) := by decide +kernel
theorem f18_30 : am_tab 18 30 = some (.iload_n 3, 1, 0, 0, 0, .null) := by decide +kernel
theorem f18_31 : am_tab 18 31 = some (.if_icmp .le 7, 3, 38, 0, 0, .null) := by decide +kernel
theorem f18_34 : am_tab 18 34 = some (.iconst 1, 1, 0, 0, 0, .null) := by decide +kernel
theorem f18_35 : am_tab 18 35 = some (.goto 4, 3, 39, 0, 0, .null) := by decide +kernel
theorem f18_38 : am_tab 18 38 = some (.iconst 0, 1, 0, 0, 0, .null) := by decide +kernel
theorem f18_39 : am_tab 18 39 = some (.iadd, 1, 0, 0, 0, .null) := by decide +kernel
theorem f18_40 : am_tab 18 40 = some (.istore_n 2, 1, 0, 0, 0, .null) := by decide +kernel
theorem f18_41 : am_tab 18 41 = some (.aload_n 0, 1, 0, 0, 0, .null) := by decide +kernel
theorem f18_42 : am_tab 18 42 = some (.iload 4, 2, 0, 0, 0, .null) := by decide +kernel
theorem f18_44 : am_tab 18 44 = some (.iaload, 1, 0, 0, 0, .null) := by decide +kernel
theorem f18_45 : am_tab 18 45 = some (.iload_n 3, 1, 0, 0, 0, .null) := by decide +kernel
theorem f18_46 : am_tab 18 46 = some (.if_icmp .le 12, 3, 58, 0, 0, .null) := by decide +kernel
theorem f18_49 : am_tab 18 49 = some (.iload_n 1, 1, 0, 0, 0, .null) := by decide +kernel
theorem f18_50 : am_tab 18 50 = some (.aload_n 0, 1, 0, 0, 0, .null) := by decide +kernel
theorem f18_51 : am_tab 18 51 = some (.iload 4, 2, 0, 0, 0, .null) := by decide +kernel
theorem f18_53 : am_tab 18 53 = some (.iaload, 1, 0, 0, 0, .null) := by decide +kernel
theorem f18_54 : am_tab 18 54 = some (.isub, 1, 0, 0, 0, .null) := by decide +kernel
theorem f18_55 : am_tab 18 55 = some (.goto 9, 3, 64, 0, 0, .null) := by decide +kernel
theorem f18_58 : am_tab 18 58 = some (.iload_n 3, 1, 0, 0, 0, .null) := by decide +kernel
theorem f18_59 : am_tab 18 59 = some (.aload_n 0, 1, 0, 0, 0, .null) := by decide +kernel
theorem f18_60 : am_tab 18 60 = some (.iload 4, 2, 0, 0, 0, .null) := by decide +kernel
theorem f18_62 : am_tab 18 62 = some (.iaload, 1, 0, 0, 0, .null) := by decide +kernel
theorem f18_63 : am_tab 18 63 = some (.isub, 1, 0, 0, 0, .null) := by decide +kernel
theorem f18_64 : am_tab 18 64 = some (.istore_n 3, 1, 0, 0, 0, .null) := by decide +kernel
theorem f18_65 : am_tab 18 65 = some (.iinc 4 1, 3, 0, 0, 0, .null) := by decide +kernel
theorem f18_68 : am_tab 18 68 = some (.goto (-61), 3, 7, 0, 0, .null) := by decide +kernel
theorem f18_71 : am_tab 18 71 = some (.iload_n 2, 1, 0, 0, 0, .null) := by decide +kernel
theorem f18_72 : am_tab 18 72 = some (.ireturn, 1, 0, 0, 0, .null) := by decide +kernel
theorem f19_0 : am_tab 19 0 = some (.aload_n 0, 1, 0, 0, 0, .null) := by decide +kernel
theorem f19_1 : am_tab 19 1 = some (.iload_n 2, 1, 0, 0, 0, .null) := by decide +kernel
theorem f19_2 : am_tab 19 2 = some (.invokevirtual 86, 3, 127, 2, 3136, .int 0) := by decide +kernel
theorem f19_5 : am_tab 19 5 = some (.istore_n 3, 1, 0, 0, 0, .null) := by decide +kernel
theorem f19_6 : am_tab 19 6 = some (.aload_n 1, 1, 0, 0, 0, .null) := by decide +kernel
theorem f19_7 : am_tab 19 7 = some (.iload_n 3, 1, 0, 0, 0, .null) := by decide +kernel
theorem f19_8 : am_tab 19 8 = some (.invokestatic 89, 3, 18, 2, 3156, .int 2) := by decide +kernel
theorem f19_11 : am_tab 19 11 = some (.iload_n 2, 1, 0, 0, 0, .null) := by decide +kernel
theorem f19_12 : am_tab 19 12 = some (.iconst 1, 1, 0, 0, 0, .null) := by decide +kernel
theorem f19_13 : am_tab 19 13 = some (.iadd, 1, 0, 0, 0, .null) := by decide +kernel
theorem f19_14 : am_tab 19 14 = some (.if_icmp .gt 20, 3, 34, 0, 0, .null) := by decide +kernel
theorem f19_17 : am_tab 19 17 = some (.aload_n 1, 1, 0, 0, 0, .null) := by decide +kernel
theorem f19_18 : am_tab 19 18 = some (.iload_n 3, 1, 0, 0, 0, .null) := by decide +kernel
theorem f19_19 : am_tab 19 19 = some (.iconst 1, 1, 0, 0, 0, .null) := by decide +kernel
theorem f19_20 : am_tab 19 20 = some (.isub, 1, 0, 0, 0, .null) := by decide +kernel
theorem f19_21 : am_tab 19 21 = some (.invokestatic 89, 3, 18, 2, 3156, .int 2) := by decide +kernel
theorem f19_24 : am_tab 19 24 = some (.iload_n 2, 1, 0, 0, 0, .null) := by decide +kernel
theorem f19_25 : am_tab 19 25 = some (.iconst 1, 1, 0, 0, 0, .null) := by decide +kernel
theorem f19_26 : am_tab 19 26 = some (.iadd, 1, 0, 0, 0, .null) := by decide +kernel
theorem f19_27 : am_tab 19 27 = some (.if_icmp .le 7, 3, 34, 0, 0, .null) := by decide +kernel
theorem f19_30 : am_tab 19 30 = some (.iconst 1, 1, 0, 0, 0, .null) := by decide +kernel
theorem f19_31 : am_tab 19 31 = some (.goto 4, 3, 35, 0, 0, .null) := by decide +kernel
theorem f19_34 : am_tab 19 34 = some (.iconst 0, 1, 0, 0, 0, .null) := by decide +kernel
theorem f19_35 : am_tab 19 35 = some (.ireturn, 1, 0, 0, 0, .null) := by decide +kernel
theorem f20_0 : am_tab 20 0 = some (.aload_n 1, 1, 0, 0, 0, .null) := by decide +kernel
theorem f20_1 : am_tab 20 1 = some (.iconst 0, 1, 0, 0, 0, .null) := by decide +kernel
theorem f20_2 : am_tab 20 2 = some (.iconst 0, 1, 0, 0, 0, .null) := by decide +kernel
theorem f20_3 : am_tab 20 3 = some (.iastore, 1, 0, 0, 0, .null) := by decide +kernel
theorem f20_4 : am_tab 20 4 = some (.iconst 0, 1, 0, 0, 0, .null) := by decide +kernel
theorem f20_5 : am_tab 20 5 = some (.istore_n 2, 1, 0, 0, 0, .null) := by decide +kernel
theorem f20_6 : am_tab 20 6 = some (.iload_n 2, 1, 0, 0, 0, .null) := by decide +kernel
theorem f20_7 : am_tab 20 7 = some (.bipush 24, 2, 0, 0, 0, .null) := by decide +kernel
theorem f20_9 : am_tab 20 9 = some (.if_icmp .ge 13, 3, 22, 0, 0, .null) := by decide +kernel
theorem f20_12 : am_tab 20 12 = some (.aload_n 0, 1, 0, 0, 0, .null) := by decide +kernel
theorem f20_13 : am_tab 20 13 = some (.iload_n 2, 1, 0, 0, 0, .null) := by decide +kernel
theorem f20_14 : am_tab 20 14 = some (.iconst 0, 1, 0, 0, 0, .null) := by decide +kernel
theorem f20_15 : am_tab 20 15 = some (.iastore, 1, 0, 0, 0, .null) := by decide +kernel
theorem f20_16 : am_tab 20 16 = some (.iinc 2 1, 3, 0, 0, 0, .null) := by decide +kernel
theorem f20_19 : am_tab 20 19 = some (.goto (-13), 3, 6, 0, 0, .null) := by decide +kernel
theorem f20_22 : am_tab 20 22 = some (.return_, 1, 0, 0, 0, .null) := by decide +kernel
theorem f21_0 : am_tab 21 0 = some (.iload 5, 2, 0, 0, 0, .null) := by decide +kernel
theorem f21_2 : am_tab 21 2 = some (.iconst 1, 1, 0, 0, 0, .null) := by decide +kernel
theorem f21_3 : am_tab 21 3 = some (.if_icmp .ne 35, 3, 38, 0, 0, .null) := by decide +kernel
theorem f21_6 : am_tab 21 6 = some (.aload_n 1, 1, 0, 0, 0, .null) := by decide +kernel
theorem f21_7 : am_tab 21 7 = some (.iload 4, 2, 0, 0, 0, .null) := by decide +kernel
theorem f21_9 : am_tab 21 9 = some (.iaload, 1, 0, 0, 0, .null) := by decide +kernel
theorem f21_10 : am_tab 21 10 = some (.ifCond .ne 28, 3, 38, 0, 0, .null) := by decide +kernel
theorem f21_13 : am_tab 21 13 = some (.aload_n 1, 1, 0, 0, 0, .null) := by decide +kernel
theorem f21_14 : am_tab 21 14 = some (.invokestatic 30, 3, 3, 1, 2025, .int 2) := by decide +kernel
theorem f21_17 : am_tab 21 17 = some (.bipush 12, 2, 0, 0, 0, .null) := by decide +kernel
theorem f21_19 : am_tab 21 19 = some (.if_icmp .ne 19, 3, 38, 0, 0, .null) := by decide +kernel
theorem f21_22 : am_tab 21 22 = some (.aload_n 0, 1, 0, 0, 0, .null) := by decide +kernel
theorem f21_23 : am_tab 21 23 = some (.iconst 0, 1, 0, 0, 0, .null) := by decide +kernel
theorem f21_24 : am_tab 21 24 = some (.invokevirtual 48, 3, 111, 2, 2145, .int 0) := by decide +kernel
theorem f21_27 : am_tab 21 27 = some (.bipush 12, 2, 0, 0, 0, .null) := by decide +kernel
theorem f21_29 : am_tab 21 29 = some (.if_icmp .ne 7, 3, 36, 0, 0, .null) := by decide +kernel
theorem f21_32 : am_tab 21 32 = some (.iconst 1, 1, 0, 0, 0, .null) := by decide +kernel
theorem f21_33 : am_tab 21 33 = some (.goto 4, 3, 37, 0, 0, .null) := by decide +kernel
theorem f21_36 : am_tab 21 36 = some (.iconst 0, 1, 0, 0, 0, .null) := by decide +kernel
theorem f21_37 : am_tab 21 37 = some (.ireturn, 1, 0, 0, 0, .null) := by decide +kernel
theorem f21_38 : am_tab 21 38 = some (.aload_n 1, 1, 0, 0, 0, .null) := by decide +kernel
theorem f21_39 : am_tab 21 39 = some (.iload 4, 2, 0, 0, 0, .null) := by decide +kernel
theorem f21_41 : am_tab 21 41 = some (.iaload, 1, 0, 0, 0, .null) := by decide +kernel
theorem f21_42 : am_tab 21 42 = some (.iload 5, 2, 0, 0, 0, .null) := by decide +kernel
theorem f21_44 : am_tab 21 44 = some (.if_icmp .eq 14, 3, 58, 0, 0, .null) := by decide +kernel
theorem f21_47 : am_tab 21 47 = some (.aload_n 1, 1, 0, 0, 0, .null) := by decide +kernel
theorem f21_48 : am_tab 21 48 = some (.iload 4, 2, 0, 0, 0, .null) := by decide +kernel
theorem f21_50 : am_tab 21 50 = some (.iload 5, 2, 0, 0, 0, .null) := by decide +kernel
theorem f21_52 : am_tab 21 52 = some (.iastore, 1, 0, 0, 0, .null) := by decide +kernel
theorem f21_53 : am_tab 21 53 = some (.aload_n 2, 1, 0, 0, 0, .null) := by decide +kernel
theorem f21_54 : am_tab 21 54 = some (.aload_n 3, 1, 0, 0, 0, .null) := by decide +kernel
theorem f21_55 : am_tab 21 55 = some (.invokestatic 92, 3, 20, 2, 3208, .int 2) := by decide +kernel
theorem f21_58 : am_tab 21 58 = some (.aload_n 0, 1, 0, 0, 0, .null) := by decide +kernel
theorem f21_59 : am_tab 21 59 = some (.iload 4, 2, 0, 0, 0, .null) := by decide +kernel
theorem f21_61 : am_tab 21 61 = some (.iload 5, 2, 0, 0, 0, .null) := by decide +kernel
theorem f21_63 : am_tab 21 63 = some (.iconst 1, 1, 0, 0, 0, .null) := by decide +kernel
theorem f21_64 : am_tab 21 64 = some (.if_icmp .ne 7, 3, 71, 0, 0, .null) := by decide +kernel
theorem f21_67 : am_tab 21 67 = some (.iconst 1, 1, 0, 0, 0, .null) := by decide +kernel
theorem f21_68 : am_tab 21 68 = some (.goto 4, 3, 72, 0, 0, .null) := by decide +kernel
theorem f21_71 : am_tab 21 71 = some (.iconst 0, 1, 0, 0, 0, .null) := by decide +kernel
theorem f21_72 : am_tab 21 72 = some (.invokevirtual 96, 3, 116, 3, 3211, .int 0) := by decide +kernel
theorem f21_75 : am_tab 21 75 = some (.aload_n 1, 1, 0, 0, 0, .null) := by decide +kernel
theorem f21_76 : am_tab 21 76 = some (.invokestatic 30, 3, 3, 1, 2025, .int 2) := by decide +kernel
theorem f21_79 : am_tab 21 79 = some (.if_icmp .ne 7, 3, 86, 0, 0, .null) := by decide +kernel
theorem f21_82 : am_tab 21 82 = some (.iconst 1, 1, 0, 0, 0, .null) := by decide +kernel
theorem f21_83 : am_tab 21 83 = some (.goto 4, 3, 87, 0, 0, .null) := by decide +kernel
theorem f21_86 : am_tab 21 86 = some (.iconst 0, 1, 0, 0, 0, .null) := by decide +kernel
theorem f21_87 : am_tab 21 87 = some (.ireturn, 1, 0, 0, 0, .null) := by decide +kernel
theorem f22_0 : am_tab 22 0 = some (.aload_n 0, 1, 0, 0, 0, .null) := by decide +kernel
theorem f22_1 : am_tab 22 1 = some (.iload 5, 2, 0, 0, 0, .null) := by decide +kernel
theorem f22_3 : am_tab 22 3 = some (.invokevirtual 86, 3, 127, 2, 3136, .int 0) := by decide +kernel
theorem f22_6 : am_tab 22 6 = some (.istore 6, 2, 0, 0, 0, .null) := by decide +kernel
theorem f22_8 : am_tab 22 8 = some (.iload 6, 2, 0, 0, 0, .null) := by decide +kernel
theorem f22_10 : am_tab 22 10 = some (.istore 7, 2, 0, 0, 0, .null) := by decide +kernel
theorem f22_12 : am_tab 22 12 = some (.iconst 0, 1, 0, 0, 0, .null) := by decide +kernel
theorem f22_13 : am_tab 22 13 = some (.istore 8, 2, 0, 0, 0, .null) := by decide +kernel
theorem f22_15 : am_tab 22 15 = some (.iload 8, 2, 0, 0, 0, .null) := by decide +kernel
theorem f22_17 : am_tab 22 17 = some (.bipush 48, 2, 0, 0, 0, .null) := by decide +kernel
theorem f22_19 : am_tab 22 19 = some (.if_icmp .ge 55, 3, 74, 0, 0, .null) := by decide +kernel
theorem f22_22 : am_tab 22 22 = some (.aload_n 2, 1, 0, 0, 0, .null) := by decide +kernel
theorem f22_23 : am_tab 22 23 = some (.iload 8, 2, 0, 0, 0, .null) := by decide +kernel
theorem f22_25 : am_tab 22 25 = some (.aload_n 1, 1, 0, 0, 0, .null) := by decide +kernel
theorem f22_26 : am_tab 22 26 = some (.iload 8, 2, 0, 0, 0, .null) := by decide +kernel
theorem f22_28 : am_tab 22 28 = some (.iaload, 1, 0, 0, 0, .null) := by decide +kernel
theorem f22_29 : am_tab 22 29 = some (.iload 7, 2, 0, 0, 0, .null) := by decide +kernel
theorem f22_31 : am_tab 22 31 = some (.if_icmp .le 7, 3, 38, 0, 0, .null) := by decide +kernel
theorem f22_34 : am_tab 22 34 = some (.iconst 1, 1, 0, 0, 0, .null) := by decide +kernel
theorem f22_35 : am_tab 22 35 = some (.goto 4, 3, 39, 0, 0, .null) := by decide +kernel
theorem f22_38 : am_tab 22 38 = some (.iconst 0, 1, 0, 0, 0, .null) := by decide +kernel
theorem f22_39 : am_tab 22 39 = some (.iastore, 1, 0, 0, 0, .null) := by decide +kernel
theorem f22_40 : am_tab 22 40 = some (.aload_n 1, 1, 0, 0, 0, .null) := by decide +kernel
theorem f22_41 : am_tab 22 41 = some (.iload 8, 2, 0, 0, 0, .null) := by decide +kernel
theorem f22_43 : am_tab 22 43 = some (.iaload, 1, 0, 0, 0, .null) := by decide +kernel
theorem f22_44 : am_tab 22 44 = some (.iload 7, 2, 0, 0, 0, .null) := by decide +kernel
theorem f22_46 : am_tab 22 46 = some (.if_icmp .le 13, 3, 59, 0, 0, .null) := by decide +kernel
theorem f22_49 : am_tab 22 49 = some (.iload 6, 2, 0, 0, 0, .null) := by decide +kernel
theorem f22_51 : am_tab 22 51 = some (.aload_n 1, 1, 0, 0, 0, .null) := by decide +kernel
theorem f22_52 : am_tab 22 52 = some (.iload 8, 2, 0, 0, 0, .null) := by decide +kernel
theorem f22_54 : am_tab 22 54 = some (.iaload, 1, 0, 0, 0, .null) := by decide +kernel
theorem f22_55 : am_tab 22 55 = some (.isub, 1, 0, 0, 0, .null) := by decide +kernel
theorem f22_56 : am_tab 22 56 = some (.goto 10, 3, 66, 0, 0, .null) := by decide +kernel
theorem f22_59 : am_tab 22 59 = some (.iload 7, 2, 0, 0, 0, .null) := by decide +kernel
theorem f22_61 : am_tab 22 61 = some (.aload_n 1, 1, 0, 0, 0, .null) := by decide +kernel
theorem f22_62 : am_tab 22 62 = some (.iload 8, 2, 0, 0, 0, .null) := by decide +kernel
theorem f22_64 : am_tab 22 64 = some (.iaload, 1, 0, 0, 0, .null) := by decide +kernel
theorem f22_65 : am_tab 22 65 = some (.isub, 1, 0, 0, 0, .null) := by decide +kernel
theorem f22_66 : am_tab 22 66 = some (.istore 7, 2, 0, 0, 0, .null) := by decide +kernel
theorem f22_68 : am_tab 22 68 = some (.iinc 8 1, 3, 0, 0, 0, .null) := by decide +kernel
theorem f22_71 : am_tab 22 71 = some (.goto (-56), 3, 15, 0, 0, .null) := by decide +kernel
theorem f22_74 : am_tab 22 74 = some (.aload_n 3, 1, 0, 0, 0, .null) := by decide +kernel
theorem f22_75 : am_tab 22 75 = some (.aload 4, 2, 0, 0, 0, .null) := by decide +kernel
theorem f22_77 : am_tab 22 77 = some (.invokestatic 92, 3, 20, 2, 3208, .int 2) := by decide +kernel
theorem f22_80 : am_tab 22 80 = some (.aload_n 0, 1, 0, 0, 0, .null) := by decide +kernel
theorem f22_81 : am_tab 22 81 = some (.iload 5, 2, 0, 0, 0, .null) := by decide +kernel
theorem f22_83 : am_tab 22 83 = some (.invokevirtual 100, 3, 117, 2, 3236, .int 0) := by decide +kernel
theorem f22_86 : am_tab 22 86 = some (.aload_n 2, 1, 0, 0, 0, .null) := by decide +kernel
theorem f22_87 : am_tab 22 87 = some (.invokestatic 30, 3, 3, 1, 2025, .int 2) := by decide +kernel
theorem f22_90 : am_tab 22 90 = some (.if_icmp .ne 18, 3, 108, 0, 0, .null) := by decide +kernel
theorem f22_93 : am_tab 22 93 = some (.aload_n 2, 1, 0, 0, 0, .null) := by decide +kernel
theorem f22_94 : am_tab 22 94 = some (.invokestatic 30, 3, 3, 1, 2025, .int 2) := by decide +kernel
theorem f22_97 : am_tab 22 97 = some (.iload 5, 2, 0, 0, 0, .null) := by decide +kernel
theorem f22_99 : am_tab 22 99 = some (.iconst 1, 1, 0, 0, 0, .null) := by decide +kernel
theorem f22_100 : am_tab 22 100 = some (.iadd, 1, 0, 0, 0, .null) := by decide +kernel
theorem f22_101 : am_tab 22 101 = some (.if_icmp .gt 7, 3, 108, 0, 0, .null) := by decide +kernel
theorem f22_104 : am_tab 22 104 = some (.iconst 1, 1, 0, 0, 0, .null) := by decide +kernel
theorem f22_105 : am_tab 22 105 = some (.goto 4, 3, 109, 0, 0, .null) := by decide +kernel
theorem f22_108 : am_tab 22 108 = some (.iconst 0, 1, 0, 0, 0, .null) := by decide +kernel
theorem f22_109 : am_tab 22 109 = some (.ireturn, 1, 0, 0, 0, .null) := by decide +kernel
theorem f23_0 : am_tab 23 0 = some (.aload_n 0, 1, 0, 0, 0, .null) := by decide +kernel
theorem f23_1 : am_tab 23 1 = some (.invokespecial 3, 3, 0, 0, 1098, .int 6) := by decide +kernel
theorem f23_4 : am_tab 23 4 = some (.aload_n 0, 1, 0, 0, 0, .null) := by decide +kernel
theorem f23_5 : am_tab 23 5 = some (.bipush 49, 2, 0, 0, 0, .null) := by decide +kernel
theorem f23_7 : am_tab 23 7 = some (.newarray .int, 2, 0, 0, 1086, .null) := by decide +kernel
theorem f23_9 : am_tab 23 9 = some (.putfield 9, 3, 0, 0, 1099, .null) := by decide +kernel
theorem f23_12 : am_tab 23 12 = some (.return_, 1, 0, 0, 0, .null) := by decide +kernel
theorem f24_0 : am_tab 24 0 = some (.iconst 0, 1, 0, 0, 0, .null) := by decide +kernel
theorem f24_1 : am_tab 24 1 = some (.istore_n 3, 1, 0, 0, 0, .null) := by decide +kernel
theorem f24_2 : am_tab 24 2 = some (.iload_n 3, 1, 0, 0, 0, .null) := by decide +kernel
theorem f24_3 : am_tab 24 3 = some (.bipush 48, 2, 0, 0, 0, .null) := by decide +kernel
theorem f24_5 : am_tab 24 5 = some (.if_icmp .ge 30, 3, 35, 0, 0, .null) := by decide +kernel
theorem f24_8 : am_tab 24 8 = some (.aload_n 0, 1, 0, 0, 0, .null) := by decide +kernel
theorem f24_9 : am_tab 24 9 = some (.getfield 9, 3, 0, 0, 1099, .null) := by decide +kernel
theorem f24_12 : am_tab 24 12 = some (.iload_n 3, 1, 0, 0, 0, .null) := by decide +kernel
theorem f24_13 : am_tab 24 13 = some (.iconst 1, 1, 0, 0, 0, .null) := by decide +kernel
theorem f24_14 : am_tab 24 14 = some (.iadd, 1, 0, 0, 0, .null) := by decide +kernel
theorem f24_15 : am_tab 24 15 = some (.aload_n 0, 1, 0, 0, 0, .null) := by decide +kernel
theorem f24_16 : am_tab 24 16 = some (.getfield 9, 3, 0, 0, 1099, .null) := by decide +kernel
theorem f24_19 : am_tab 24 19 = some (.iload_n 3, 1, 0, 0, 0, .null) := by decide +kernel
theorem f24_20 : am_tab 24 20 = some (.iaload, 1, 0, 0, 0, .null) := by decide +kernel
theorem f24_21 : am_tab 24 21 = some (.aload_n 1, 1, 0, 0, 0, .null) := by decide +kernel
theorem f24_22 : am_tab 24 22 = some (.iload_n 3, 1, 0, 0, 0, .null) := by decide +kernel
theorem f24_23 : am_tab 24 23 = some (.iload_n 2, 1, 0, 0, 0, .null) := by decide +kernel
theorem f24_24 : am_tab 24 24 = some (.invokevirtual 15, 3, 45, 3, 3053, .int 0) := by decide +kernel
theorem f24_27 : am_tab 24 27 = some (.iadd, 1, 0, 0, 0, .null) := by decide +kernel
theorem f24_28 : am_tab 24 28 = some (.iastore, 1, 0, 0, 0, .null) := by decide +kernel
theorem f24_29 : am_tab 24 29 = some (.iinc 3 1, 3, 0, 0, 0, .null) := by decide +kernel
theorem f24_32 : am_tab 24 32 = some (.goto (-30), 3, 2, 0, 0, .null) := by decide +kernel
theorem f24_35 : am_tab 24 35 = some (.return_, 1, 0, 0, 0, .null) := by decide +kernel
theorem f25_0 : am_tab 25 0 = some (.iload_n 1, 1, 0, 0, 0, .null) := by decide +kernel
theorem f25_1 : am_tab 25 1 = some (.ifCond .lt 30, 3, 31, 0, 0, .null) := by decide +kernel
theorem f25_4 : am_tab 25 4 = some (.iload_n 1, 1, 0, 0, 0, .null) := by decide +kernel
theorem f25_5 : am_tab 25 5 = some (.iload_n 2, 1, 0, 0, 0, .null) := by decide +kernel
theorem f25_6 : am_tab 25 6 = some (.if_icmp .ge 25, 3, 31, 0, 0, .null) := by decide +kernel
theorem f25_9 : am_tab 25 9 = some (.iload_n 2, 1, 0, 0, 0, .null) := by decide +kernel
theorem f25_10 : am_tab 25 10 = some (.bipush 48, 2, 0, 0, 0, .null) := by decide +kernel
theorem f25_12 : am_tab 25 12 = some (.if_icmp .gt 19, 3, 31, 0, 0, .null) := by decide +kernel
theorem f25_15 : am_tab 25 15 = some (.aload_n 0, 1, 0, 0, 0, .null) := by decide +kernel
theorem f25_16 : am_tab 25 16 = some (.getfield 9, 3, 0, 0, 1099, .null) := by decide +kernel
theorem f25_19 : am_tab 25 19 = some (.iload_n 2, 1, 0, 0, 0, .null) := by decide +kernel
theorem f25_20 : am_tab 25 20 = some (.iaload, 1, 0, 0, 0, .null) := by decide +kernel
theorem f25_21 : am_tab 25 21 = some (.aload_n 0, 1, 0, 0, 0, .null) := by decide +kernel
theorem f25_22 : am_tab 25 22 = some (.getfield 9, 3, 0, 0, 1099, .null) := by decide +kernel
theorem f25_25 : am_tab 25 25 = some (.iload_n 1, 1, 0, 0, 0, .null) := by decide +kernel
theorem f25_26 : am_tab 25 26 = some (.iaload, 1, 0, 0, 0, .null) := by decide +kernel
theorem f25_27 : am_tab 25 27 = some (.isub, 1, 0, 0, 0, .null) := by decide +kernel
theorem f25_28 : am_tab 25 28 = some (.goto 4, 3, 32, 0, 0, .null) := by decide +kernel
theorem f25_31 : am_tab 25 31 = some (.iconst 0, 1, 0, 0, 0, .null) := by decide +kernel
theorem f25_32 : am_tab 25 32 = some (.ireturn, 1, 0, 0, 0, .null) := by decide +kernel
theorem f26_0 : am_tab 26 0 = some (.aload_n 0, 1, 0, 0, 0, .null) := by decide +kernel
theorem f26_1 : am_tab 26 1 = some (.iload_n 1, 1, 0, 0, 0, .null) := by decide +kernel
theorem f26_2 : am_tab 26 2 = some (.iload_n 2, 1, 0, 0, 0, .null) := by decide +kernel
theorem f26_3 : am_tab 26 3 = some (.invokevirtual 21, 3, 25, 3, 3074, .int 0) := by decide +kernel
theorem f26_6 : am_tab 26 6 = some (.istore_n 3, 1, 0, 0, 0, .null) := by decide +kernel
theorem f26_7 : am_tab 26 7 = some (.iload_n 1, 1, 0, 0, 0, .null) := by decide +kernel
theorem f26_8 : am_tab 26 8 = some (.iconst 1, 1, 0, 0, 0, .null) := by decide +kernel
theorem f26_9 : am_tab 26 9 = some (.iadd, 1, 0, 0, 0, .null) := by decide +kernel
theorem f26_10 : am_tab 26 10 = some (.istore 4, 2, 0, 0, 0, .null) := by decide +kernel
theorem f26_12 : am_tab 26 12 = some (.iload_n 3, 1, 0, 0, 0, .null) := by decide +kernel
theorem f26_13 : am_tab 26 13 = some (.istore 5, 2, 0, 0, 0, .null) := by decide +kernel
theorem f26_15 : am_tab 26 15 = some (.iload_n 1, 1, 0, 0, 0, .null) := by decide +kernel
theorem f26_16 : am_tab 26 16 = some (.iconst 1, 1, 0, 0, 0, .null) := by decide +kernel
theorem f26_17 : am_tab 26 17 = some (.iadd, 1, 0, 0, 0, .null) := by decide +kernel
theorem f26_18 : am_tab 26 18 = some (.istore 6, 2, 0, 0, 0, .null) := by decide +kernel
theorem f26_20 : am_tab 26 20 = some (.iload 6, 2, 0, 0, 0, .null) := by decide +kernel
theorem f26_22 : am_tab 26 22 = some (.iload_n 2, 1, 0, 0, 0, .null) := by decide +kernel
theorem f26_23 : am_tab 26 23 = some (.if_icmp .ge 40, 3, 63, 0, 0, .null) := by decide +kernel
theorem f26_26 : am_tab 26 26 = some (.iconst 2, 1, 0, 0, 0, .null) := by decide +kernel
theorem f26_27 : am_tab 26 27 = some (.aload_n 0, 1, 0, 0, 0, .null) := by decide +kernel
theorem f26_28 : am_tab 26 28 = some (.iload_n 1, 1, 0, 0, 0, .null) := by decide +kernel
theorem f26_29 : am_tab 26 29 = some (.iload 6, 2, 0, 0, 0, .null) := by decide +kernel
theorem f26_31 : am_tab 26 31 = some (.invokevirtual 21, 3, 25, 3, 3074, .int 0) := by decide +kernel
theorem f26_34 : am_tab 26 34 = some (.imul, 1, 0, 0, 0, .null) := by decide +kernel
theorem f26_35 : am_tab 26 35 = some (.iload_n 3, 1, 0, 0, 0, .null) := by decide +kernel
theorem f26_36 : am_tab 26 36 = some (.isub, 1, 0, 0, 0, .null) := by decide +kernel
theorem f26_37 : am_tab 26 37 = some (.invokestatic 24, 3, 0, 0, 3078, .int 12) := by decide +kernel
theorem f26_40 : am_tab 26 40 = some (.istore 7, 2, 0, 0, 0, .null) := by decide +kernel
theorem f26_42 : am_tab 26 42 = some (.iload 7, 2, 0, 0, 0, .null) := by decide +kernel
theorem f26_44 : am_tab 26 44 = some (.iload 5, 2, 0, 0, 0, .null) := by decide +kernel
theorem f26_46 : am_tab 26 46 = some (.if_icmp .ge 11, 3, 57, 0, 0, .null) := by decide +kernel
theorem f26_49 : am_tab 26 49 = some (.iload 6, 2, 0, 0, 0, .null) := by decide +kernel
theorem f26_51 : am_tab 26 51 = some (.istore 4, 2, 0, 0, 0, .null) := by decide +kernel
theorem f26_53 : am_tab 26 53 = some (.iload 7, 2, 0, 0, 0, .null) := by decide +kernel
theorem f26_55 : am_tab 26 55 = some (.istore 5, 2, 0, 0, 0, .null) := by decide +kernel
theorem f26_57 : am_tab 26 57 = some (.iinc 6 1, 3, 0, 0, 0, .null) := by decide +kernel
theorem f26_60 : am_tab 26 60 = some (.goto (-40), 3, 20, 0, 0, .null) := by decide +kernel
theorem f26_63 : am_tab 26 63 = some (.iload 4, 2, 0, 0, 0, .null) := by decide +kernel
theorem f26_65 : am_tab 26 65 = some (.ireturn, 1, 0, 0, 0, .null) := by decide +kernel
theorem f27_0 : am_tab 27 0 = some (.aload_n 0, 1, 0, 0, 0, .null) := by decide +kernel
theorem f27_1 : am_tab 27 1 = some (.invokespecial 3, 3, 0, 0, 1033, .int 6) := by decide +kernel
theorem f27_4 : am_tab 27 4 = some (.aload_n 0, 1, 0, 0, 0, .null) := by decide +kernel
theorem f27_5 : am_tab 27 5 = some (.new 9, 3, 3, 12, 1034, .null) := by decide +kernel
theorem f27_8 : am_tab 27 8 = some (.dup, 1, 0, 0, 0, .null) := by decide +kernel
theorem f27_9 : am_tab 27 9 = some (.invokespecial 11, 3, 41, 1, 1036, .int 4) := by decide +kernel
theorem f27_12 : am_tab 27 12 = some (.putfield 12, 3, 1, 0, 1120, .null) := by decide +kernel
theorem f27_15 : am_tab 27 15 = some (.aload_n 0, 1, 0, 0, 0, .null) := by decide +kernel
theorem f27_16 : am_tab 27 16 = some (.new 18, 3, 5, 4, 1087, .null) := by decide +kernel
theorem f27_19 : am_tab 27 19 = some (.dup, 1, 0, 0, 0, .null) := by decide +kernel
theorem f27_20 : am_tab 27 20 = some (.invokespecial 20, 3, 80, 1, 1089, .int 5) := by decide +kernel
theorem f27_23 : am_tab 27 23 = some (.putfield 21, 3, 1, 1, 1122, .null) := by decide +kernel
theorem f27_26 : am_tab 27 26 = some (.return_, 1, 0, 0, 0, .null) := by decide +kernel
theorem f35_0 : am_tab 35 0 = some (.iload_n 1, 1, 0, 0, 0, .null) := by decide +kernel
theorem f35_1 : am_tab 35 1 = some (.invokestatic 93, 3, 139, 1, 4052, .int 3) := by decide +kernel
theorem f35_4 : am_tab 35 4 = some (.ifCond .eq 13, 3, 17, 0, 0, .null) := by decide +kernel
theorem f35_7 : am_tab 35 7 = some (.aload_n 0, 1, 0, 0, 0, .null) := by decide +kernel
theorem f35_8 : am_tab 35 8 = some (.getfield 12, 3, 1, 0, 1120, .null) := by decide +kernel
theorem f35_11 : am_tab 35 11 = some (.invokevirtual 96, 3, 56, 1, 4053, .int 0) := by decide +kernel
theorem f35_14 : am_tab 35 14 = some (.ifCond .ne 5, 3, 19, 0, 0, .null) := by decide +kernel
theorem f35_17 : am_tab 35 17 = some (.iconst 0, 1, 0, 0, 0, .null) := by decide +kernel
theorem f35_18 : am_tab 35 18 = some (.ireturn, 1, 0, 0, 0, .null) := by decide +kernel
theorem f35_19 : am_tab 35 19 = some (.aload_n 0, 1, 0, 0, 0, .null) := by decide +kernel
theorem f35_20 : am_tab 35 20 = some (.getfield 21, 3, 1, 1, 1122, .null) := by decide +kernel
theorem f35_23 : am_tab 35 23 = some (.aload_n 0, 1, 0, 0, 0, .null) := by decide +kernel
theorem f35_24 : am_tab 35 24 = some (.getfield 12, 3, 1, 0, 1120, .null) := by decide +kernel
theorem f35_27 : am_tab 35 27 = some (.iload_n 1, 1, 0, 0, 0, .null) := by decide +kernel
theorem f35_28 : am_tab 35 28 = some (.invokevirtual 99, 3, 81, 3, 4054, .int 0) := by decide +kernel
theorem f35_31 : am_tab 35 31 = some (.aload_n 0, 1, 0, 0, 0, .null) := by decide +kernel
theorem f35_32 : am_tab 35 32 = some (.getfield 12, 3, 1, 0, 1120, .null) := by decide +kernel
theorem f35_35 : am_tab 35 35 = some (.aload_n 0, 1, 0, 0, 0, .null) := by decide +kernel
theorem f35_36 : am_tab 35 36 = some (.getfield 21, 3, 1, 1, 1122, .null) := by decide +kernel
theorem f35_39 : am_tab 35 39 = some (.getfield 103, 3, 5, 2, 1106, .int 1) := by decide +kernel
theorem f35_42 : am_tab 35 42 = some (.aload_n 0, 1, 0, 0, 0, .null) := by decide +kernel
theorem f35_43 : am_tab 35 43 = some (.getfield 21, 3, 1, 1, 1122, .null) := by decide +kernel
theorem f35_46 : am_tab 35 46 = some (.getfield 107, 3, 5, 3, 1109, .int 1) := by decide +kernel
theorem f35_49 : am_tab 35 49 = some (.invokevirtual 111, 3, 64, 3, 4055, .int 0) := by decide +kernel
theorem f35_52 : am_tab 35 52 = some (.iconst 1, 1, 0, 0, 0, .null) := by decide +kernel
theorem f35_53 : am_tab 35 53 = some (.ireturn, 1, 0, 0, 0, .null) := by decide +kernel
theorem f36_0 : am_tab 36 0 = some (.aload_n 0, 1, 0, 0, 0, .null) := by decide +kernel
theorem f36_1 : am_tab 36 1 = some (.invokespecial 3, 3, 0, 0, 1172, .int 6) := by decide +kernel
theorem f36_4 : am_tab 36 4 = some (.aload_n 0, 1, 0, 0, 0, .null) := by decide +kernel
theorem f36_5 : am_tab 36 5 = some (.bipush 14, 2, 0, 0, 0, .null) := by decide +kernel
theorem f36_7 : am_tab 36 7 = some (.anewarray 9, 3, 4, 0, 1173, .null) := by decide +kernel
theorem f36_10 : am_tab 36 10 = some (.putfield 11, 3, 2, 0, 1176, .null) := by decide +kernel
theorem f36_13 : am_tab 36 13 = some (.iconst 0, 1, 0, 0, 0, .null) := by decide +kernel
theorem f36_14 : am_tab 36 14 = some (.istore_n 1, 1, 0, 0, 0, .null) := by decide +kernel
theorem f36_15 : am_tab 36 15 = some (.iload_n 1, 1, 0, 0, 0, .null) := by decide +kernel
theorem f36_16 : am_tab 36 16 = some (.bipush 14, 2, 0, 0, 0, .null) := by decide +kernel
theorem f36_18 : am_tab 36 18 = some (.if_icmp .ge 22, 3, 40, 0, 0, .null) := by decide +kernel
theorem f36_21 : am_tab 36 21 = some (.aload_n 0, 1, 0, 0, 0, .null) := by decide +kernel
theorem f36_22 : am_tab 36 22 = some (.getfield 11, 3, 2, 0, 1176, .null) := by decide +kernel
theorem f36_25 : am_tab 36 25 = some (.iload_n 1, 1, 0, 0, 0, .null) := by decide +kernel
theorem f36_26 : am_tab 36 26 = some (.new 9, 3, 3, 12, 1173, .null) := by decide +kernel
theorem f36_29 : am_tab 36 29 = some (.dup, 1, 0, 0, 0, .null) := by decide +kernel
theorem f36_30 : am_tab 36 30 = some (.invokespecial 17, 3, 41, 1, 1175, .int 4) := by decide +kernel
theorem f36_33 : am_tab 36 33 = some (.aastore, 1, 0, 0, 0, .null) := by decide +kernel
theorem f36_34 : am_tab 36 34 = some (.iinc 1 1, 3, 0, 0, 0, .null) := by decide +kernel
theorem f36_37 : am_tab 36 37 = some (.goto (-22), 3, 15, 0, 0, .null) := by decide +kernel
theorem f36_40 : am_tab 36 40 = some (.return_, 1, 0, 0, 0, .null) := by decide +kernel
theorem f38_0 : am_tab 38 0 = some (.aload_n 0, 1, 0, 0, 0, .null) := by decide +kernel
theorem f38_1 : am_tab 38 1 = some (.aload_n 0, 1, 0, 0, 0, .null) := by decide +kernel
theorem f38_2 : am_tab 38 2 = some (.getfield 22, 3, 2, 1, 1177, .null) := by decide +kernel
theorem f38_5 : am_tab 38 5 = some (.invokevirtual 25, 3, 40, 2, 3173, .int 0) := by decide +kernel
theorem f38_8 : am_tab 38 8 = some (.astore_n 2, 1, 0, 0, 0, .null) := by decide +kernel
theorem f38_9 : am_tab 38 9 = some (.aload_n 2, 1, 0, 0, 0, .null) := by decide +kernel
theorem f38_10 : am_tab 38 10 = some (.ifnull 46, 3, 56, 0, 0, .null) := by decide +kernel
theorem f38_13 : am_tab 38 13 = some (.aload_n 2, 1, 0, 0, 0, .null) := by decide +kernel
theorem f38_14 : am_tab 38 14 = some (.aload_n 1, 1, 0, 0, 0, .null) := by decide +kernel
theorem f38_15 : am_tab 38 15 = some (.invokevirtual 29, 3, 42, 2, 3177, .int 0) := by decide +kernel
theorem f38_18 : am_tab 38 18 = some (.aload_n 0, 1, 0, 0, 0, .null) := by decide +kernel
theorem f38_19 : am_tab 38 19 = some (.aload_n 0, 1, 0, 0, 0, .null) := by decide +kernel
theorem f38_20 : am_tab 38 20 = some (.getfield 22, 3, 2, 1, 1177, .null) := by decide +kernel
theorem f38_23 : am_tab 38 23 = some (.bipush 13, 2, 0, 0, 0, .null) := by decide +kernel
theorem f38_25 : am_tab 38 25 = some (.if_icmp .ne 7, 3, 32, 0, 0, .null) := by decide +kernel
theorem f38_28 : am_tab 38 28 = some (.iconst 0, 1, 0, 0, 0, .null) := by decide +kernel
theorem f38_29 : am_tab 38 29 = some (.goto 9, 3, 38, 0, 0, .null) := by decide +kernel
theorem f38_32 : am_tab 38 32 = some (.aload_n 0, 1, 0, 0, 0, .null) := by decide +kernel
theorem f38_33 : am_tab 38 33 = some (.getfield 22, 3, 2, 1, 1177, .null) := by decide +kernel
theorem f38_36 : am_tab 38 36 = some (.iconst 1, 1, 0, 0, 0, .null) := by decide +kernel
theorem f38_37 : am_tab 38 37 = some (.iadd, 1, 0, 0, 0, .null) := by decide +kernel
theorem f38_38 : am_tab 38 38 = some (.putfield 22, 3, 2, 1, 1177, .null) := by decide +kernel
theorem f38_41 : am_tab 38 41 = some (.aload_n 0, 1, 0, 0, 0, .null) := by decide +kernel
theorem f38_42 : am_tab 38 42 = some (.aload_n 0, 1, 0, 0, 0, .null) := by decide +kernel
theorem f38_43 : am_tab 38 43 = some (.getfield 18, 3, 2, 2, 1178, .null) := by decide +kernel
theorem f38_46 : am_tab 38 46 = some (.iconst 1, 1, 0, 0, 0, .null) := by decide +kernel
theorem f38_47 : am_tab 38 47 = some (.iadd, 1, 0, 0, 0, .null) := by decide +kernel
theorem f38_48 : am_tab 38 48 = some (.bipush 14, 2, 0, 0, 0, .null) := by decide +kernel
theorem f38_50 : am_tab 38 50 = some (.invokestatic 33, 3, 0, 0, 3184, .int 11) := by decide +kernel
theorem f38_53 : am_tab 38 53 = some (.putfield 18, 3, 2, 2, 1178, .null) := by decide +kernel
theorem f38_56 : am_tab 38 56 = some (.return_, 1, 0, 0, 0, .null) := by decide +kernel
theorem f40_0 : am_tab 40 0 = some (.iload_n 1, 1, 0, 0, 0, .null) := by decide +kernel
theorem f40_1 : am_tab 40 1 = some (.ifCond .lt 18, 3, 19, 0, 0, .null) := by decide +kernel
theorem f40_4 : am_tab 40 4 = some (.iload_n 1, 1, 0, 0, 0, .null) := by decide +kernel
theorem f40_5 : am_tab 40 5 = some (.bipush 14, 2, 0, 0, 0, .null) := by decide +kernel
theorem f40_7 : am_tab 40 7 = some (.if_icmp .ge 12, 3, 19, 0, 0, .null) := by decide +kernel
theorem f40_10 : am_tab 40 10 = some (.aload_n 0, 1, 0, 0, 0, .null) := by decide +kernel
theorem f40_11 : am_tab 40 11 = some (.getfield 11, 3, 2, 0, 1176, .null) := by decide +kernel
theorem f40_14 : am_tab 40 14 = some (.iload_n 1, 1, 0, 0, 0, .null) := by decide +kernel
theorem f40_15 : am_tab 40 15 = some (.aaload, 1, 0, 0, 0, .null) := by decide +kernel
theorem f40_16 : am_tab 40 16 = some (.goto 4, 3, 20, 0, 0, .null) := by decide +kernel
theorem f40_19 : am_tab 40 19 = some (.aconst_null, 1, 0, 0, 0, .null) := by decide +kernel
theorem f40_20 : am_tab 40 20 = some (.areturn, 1, 0, 0, 0, .null) := by decide +kernel
theorem f41_0 : am_tab 41 0 = some (.aload_n 0, 1, 0, 0, 0, .null) := by decide +kernel
theorem f41_1 : am_tab 41 1 = some (.invokespecial 3, 3, 0, 0, 1039, .int 6) := by decide +kernel
theorem f41_4 : am_tab 41 4 = some (.aload_n 0, 1, 0, 0, 0, .null) := by decide +kernel
theorem f41_5 : am_tab 41 5 = some (.bipush 48, 2, 0, 0, 0, .null) := by decide +kernel
theorem f41_7 : am_tab 41 7 = some (.newarray .int, 2, 0, 0, 1086, .null) := by decide +kernel
theorem f41_9 : am_tab 41 9 = some (.putfield 9, 3, 3, 0, 1040, .null) := by decide +kernel
theorem f41_12 : am_tab 41 12 = some (.aload_n 0, 1, 0, 0, 0, .null) := by decide +kernel
theorem f41_13 : am_tab 41 13 = some (.bipush 48, 2, 0, 0, 0, .null) := by decide +kernel
theorem f41_15 : am_tab 41 15 = some (.newarray .int, 2, 0, 0, 1086, .null) := by decide +kernel
theorem f41_17 : am_tab 41 17 = some (.putfield 15, 3, 3, 1, 1041, .null) := by decide +kernel
theorem f41_20 : am_tab 41 20 = some (.aload_n 0, 1, 0, 0, 0, .null) := by decide +kernel
theorem f41_21 : am_tab 41 21 = some (.bipush 12, 2, 0, 0, 0, .null) := by decide +kernel
theorem f41_23 : am_tab 41 23 = some (.newarray .int, 2, 0, 0, 1086, .null) := by decide +kernel
theorem f41_25 : am_tab 41 25 = some (.putfield 18, 3, 3, 2, 1042, .null) := by decide +kernel
theorem f41_28 : am_tab 41 28 = some (.aload_n 0, 1, 0, 0, 0, .null) := by decide +kernel
theorem f41_29 : am_tab 41 29 = some (.bipush 12, 2, 0, 0, 0, .null) := by decide +kernel
theorem f41_31 : am_tab 41 31 = some (.newarray .int, 2, 0, 0, 1086, .null) := by decide +kernel
theorem f41_33 : am_tab 41 33 = some (.putfield 21, 3, 3, 3, 1043, .null) := by decide +kernel
theorem f41_36 : am_tab 41 36 = some (.aload_n 0, 1, 0, 0, 0, .null) := by decide +kernel
theorem f41_37 : am_tab 41 37 = some (.iconst 1, 1, 0, 0, 0, .null) := by decide +kernel
theorem f41_38 : am_tab 41 38 = some (.putfield 24, 3, 3, 8, 1052, .null) := by decide +kernel
theorem f41_41 : am_tab 41 41 = some (.iconst 0, 1, 0, 0, 0, .null) := by decide +kernel
theorem f41_42 : am_tab 41 42 = some (.istore_n 1, 1, 0, 0, 0, .null) := by decide +kernel
theorem f41_43 : am_tab 41 43 = some (.iload_n 1, 1, 0, 0, 0, .null) := by decide +kernel
theorem f41_44 : am_tab 41 44 = some (.bipush 48, 2, 0, 0, 0, .null) := by decide +kernel
theorem f41_46 : am_tab 41 46 = some (.if_icmp .ge 16, 3, 62, 0, 0, .null) := by decide +kernel
theorem f41_49 : am_tab 41 49 = some (.aload_n 0, 1, 0, 0, 0, .null) := by decide +kernel
theorem f41_50 : am_tab 41 50 = some (.getfield 9, 3, 3, 0, 1040, .null) := by decide +kernel
theorem f41_53 : am_tab 41 53 = some (.iload_n 1, 1, 0, 0, 0, .null) := by decide +kernel
theorem f41_54 : am_tab 41 54 = some (.iconst 1, 1, 0, 0, 0, .null) := by decide +kernel
theorem f41_55 : am_tab 41 55 = some (.iastore, 1, 0, 0, 0, .null) := by decide +kernel
theorem f41_56 : am_tab 41 56 = some (.iinc 1 1, 3, 0, 0, 0, .null) := by decide +kernel
theorem f41_59 : am_tab 41 59 = some (.goto (-16), 3, 43, 0, 0, .null) := by decide +kernel
theorem f41_62 : am_tab 41 62 = some (.return_, 1, 0, 0, 0, .null) := by decide +kernel
theorem f42_0 : am_tab 42 0 = some (.aload_n 1, 1, 0, 0, 0, .null) := by decide +kernel
theorem f42_1 : am_tab 42 1 = some (.getfield 9, 3, 3, 0, 1040, .null) := by decide +kernel
theorem f42_4 : am_tab 42 4 = some (.iconst 0, 1, 0, 0, 0, .null) := by decide +kernel
theorem f42_5 : am_tab 42 5 = some (.aload_n 0, 1, 0, 0, 0, .null) := by decide +kernel
theorem f42_6 : am_tab 42 6 = some (.getfield 9, 3, 3, 0, 1040, .null) := by decide +kernel
theorem f42_9 : am_tab 42 9 = some (.iconst 0, 1, 0, 0, 0, .null) := by decide +kernel
theorem f42_10 : am_tab 42 10 = some (.bipush 48, 2, 0, 0, 0, .null) := by decide +kernel
theorem f42_12 : am_tab 42 12 = some (.invokestatic 28, 3, 0, 0, 3181, .int 7) := by decide +kernel
theorem f42_15 : am_tab 42 15 = some (.aload_n 1, 1, 0, 0, 0, .null) := by decide +kernel
theorem f42_16 : am_tab 42 16 = some (.getfield 15, 3, 3, 1, 1041, .null) := by decide +kernel
theorem f42_19 : am_tab 42 19 = some (.iconst 0, 1, 0, 0, 0, .null) := by decide +kernel
theorem f42_20 : am_tab 42 20 = some (.aload_n 0, 1, 0, 0, 0, .null) := by decide +kernel
theorem f42_21 : am_tab 42 21 = some (.getfield 15, 3, 3, 1, 1041, .null) := by decide +kernel
theorem f42_24 : am_tab 42 24 = some (.iconst 0, 1, 0, 0, 0, .null) := by decide +kernel
theorem f42_25 : am_tab 42 25 = some (.bipush 48, 2, 0, 0, 0, .null) := by decide +kernel
theorem f42_27 : am_tab 42 27 = some (.invokestatic 28, 3, 0, 0, 3181, .int 7) := by decide +kernel
theorem f42_30 : am_tab 42 30 = some (.aload_n 1, 1, 0, 0, 0, .null) := by decide +kernel
theorem f42_31 : am_tab 42 31 = some (.getfield 18, 3, 3, 2, 1042, .null) := by decide +kernel
theorem f42_34 : am_tab 42 34 = some (.iconst 0, 1, 0, 0, 0, .null) := by decide +kernel
theorem f42_35 : am_tab 42 35 = some (.aload_n 0, 1, 0, 0, 0, .null) := by decide +kernel
theorem f42_36 : am_tab 42 36 = some (.getfield 18, 3, 3, 2, 1042, .null) := by decide +kernel
theorem f42_39 : am_tab 42 39 = some (.iconst 0, 1, 0, 0, 0, .null) := by decide +kernel
theorem f42_40 : am_tab 42 40 = some (.bipush 12, 2, 0, 0, 0, .null) := by decide +kernel
theorem f42_42 : am_tab 42 42 = some (.invokestatic 28, 3, 0, 0, 3181, .int 7) := by decide +kernel
theorem f42_45 : am_tab 42 45 = some (.aload_n 1, 1, 0, 0, 0, .null) := by decide +kernel
theorem f42_46 : am_tab 42 46 = some (.getfield 21, 3, 3, 3, 1043, .null) := by decide +kernel
theorem f42_49 : am_tab 42 49 = some (.iconst 0, 1, 0, 0, 0, .null) := by decide +kernel
theorem f42_50 : am_tab 42 50 = some (.aload_n 0, 1, 0, 0, 0, .null) := by decide +kernel
theorem f42_51 : am_tab 42 51 = some (.getfield 21, 3, 3, 3, 1043, .null) := by decide +kernel
theorem f42_54 : am_tab 42 54 = some (.iconst 0, 1, 0, 0, 0, .null) := by decide +kernel
theorem f42_55 : am_tab 42 55 = some (.bipush 12, 2, 0, 0, 0, .null) := by decide +kernel
theorem f42_57 : am_tab 42 57 = some (.invokestatic 28, 3, 0, 0, 3181, .int 7) := by decide +kernel
theorem f42_60 : am_tab 42 60 = some (.aload_n 0, 1, 0, 0, 0, .null) := by decide +kernel
theorem f42_61 : am_tab 42 61 = some (.aload_n 1, 1, 0, 0, 0, .null) := by decide +kernel
theorem f42_62 : am_tab 42 62 = some (.getfield 34, 3, 3, 4, 1044, .null) := by decide +kernel
theorem f42_65 : am_tab 42 65 = some (.putfield 34, 3, 3, 4, 1044, .null) := by decide +kernel
theorem f42_68 : am_tab 42 68 = some (.aload_n 0, 1, 0, 0, 0, .null) := by decide +kernel
theorem f42_69 : am_tab 42 69 = some (.aload_n 1, 1, 0, 0, 0, .null) := by decide +kernel
theorem f42_70 : am_tab 42 70 = some (.getfield 38, 3, 3, 5, 1045, .null) := by decide +kernel
theorem f42_73 : am_tab 42 73 = some (.putfield 38, 3, 3, 5, 1045, .null) := by decide +kernel
theorem f42_76 : am_tab 42 76 = some (.aload_n 0, 1, 0, 0, 0, .null) := by decide +kernel
theorem f42_77 : am_tab 42 77 = some (.aload_n 1, 1, 0, 0, 0, .null) := by decide +kernel
theorem f42_78 : am_tab 42 78 = some (.getfield 41, 3, 3, 6, 1048, .null) := by decide +kernel
theorem f42_81 : am_tab 42 81 = some (.putfield 41, 3, 3, 6, 1048, .null) := by decide +kernel
theorem f42_84 : am_tab 42 84 = some (.aload_n 0, 1, 0, 0, 0, .null) := by decide +kernel
theorem f42_85 : am_tab 42 85 = some (.aload_n 1, 1, 0, 0, 0, .null) := by decide +kernel
theorem f42_86 : am_tab 42 86 = some (.getfield 44, 3, 3, 7, 1050, .null) := by decide +kernel
theorem f42_89 : am_tab 42 89 = some (.putfield 44, 3, 3, 7, 1050, .null) := by decide +kernel
theorem f42_92 : am_tab 42 92 = some (.aload_n 0, 1, 0, 0, 0, .null) := by decide +kernel
theorem f42_93 : am_tab 42 93 = some (.aload_n 1, 1, 0, 0, 0, .null) := by decide +kernel
theorem f42_94 : am_tab 42 94 = some (.getfield 24, 3, 3, 8, 1052, .null) := by decide +kernel
theorem f42_97 : am_tab 42 97 = some (.putfield 24, 3, 3, 8, 1052, .null) := by decide +kernel
theorem f42_100 : am_tab 42 100 = some (.aload_n 0, 1, 0, 0, 0, .null) := by decide +kernel
theorem f42_101 : am_tab 42 101 = some (.aload_n 1, 1, 0, 0, 0, .null) := by decide +kernel
theorem f42_102 : am_tab 42 102 = some (.getfield 48, 3, 3, 9, 1055, .null) := by decide +kernel
theorem f42_105 : am_tab 42 105 = some (.putfield 48, 3, 3, 9, 1055, .null) := by decide +kernel
theorem f42_108 : am_tab 42 108 = some (.aload_n 0, 1, 0, 0, 0, .null) := by decide +kernel
theorem f42_109 : am_tab 42 109 = some (.aload_n 1, 1, 0, 0, 0, .null) := by decide +kernel
theorem f42_110 : am_tab 42 110 = some (.getfield 51, 3, 3, 10, 1057, .null) := by decide +kernel
theorem f42_113 : am_tab 42 113 = some (.putfield 51, 3, 3, 10, 1057, .null) := by decide +kernel
theorem f42_116 : am_tab 42 116 = some (.aload_n 0, 1, 0, 0, 0, .null) := by decide +kernel
theorem f42_117 : am_tab 42 117 = some (.aload_n 1, 1, 0, 0, 0, .null) := by decide +kernel
theorem f42_118 : am_tab 42 118 = some (.getfield 54, 3, 3, 11, 1059, .null) := by decide +kernel
theorem f42_121 : am_tab 42 121 = some (.putfield 54, 3, 3, 11, 1059, .null) := by decide +kernel
theorem f42_124 : am_tab 42 124 = some (.return_, 1, 0, 0, 0, .null) := by decide +kernel
theorem f43_0 : am_tab 43 0 = some (.iload_n 1, 1, 0, 0, 0, .null) := by decide +kernel
theorem f43_1 : am_tab 43 1 = some (.invokestatic 57, 3, 134, 1, 2110, .int 3) := by decide +kernel
theorem f43_4 : am_tab 43 4 = some (.ifCond .eq 12, 3, 16, 0, 0, .null) := by decide +kernel
theorem f43_7 : am_tab 43 7 = some (.aload_n 0, 1, 0, 0, 0, .null) := by decide +kernel
theorem f43_8 : am_tab 43 8 = some (.getfield 9, 3, 3, 0, 1040, .null) := by decide +kernel
theorem f43_11 : am_tab 43 11 = some (.iload_n 1, 1, 0, 0, 0, .null) := by decide +kernel
theorem f43_12 : am_tab 43 12 = some (.iaload, 1, 0, 0, 0, .null) := by decide +kernel
theorem f43_13 : am_tab 43 13 = some (.goto 4, 3, 17, 0, 0, .null) := by decide +kernel
theorem f43_16 : am_tab 43 16 = some (.iconst 0, 1, 0, 0, 0, .null) := by decide +kernel
theorem f43_17 : am_tab 43 17 = some (.ireturn, 1, 0, 0, 0, .null) := by decide +kernel
theorem f44_0 : am_tab 44 0 = some (.iload_n 1, 1, 0, 0, 0, .null) := by decide +kernel
theorem f44_1 : am_tab 44 1 = some (.invokestatic 57, 3, 134, 1, 2110, .int 3) := by decide +kernel
theorem f44_4 : am_tab 44 4 = some (.ifCond .eq 12, 3, 16, 0, 0, .null) := by decide +kernel
theorem f44_7 : am_tab 44 7 = some (.aload_n 0, 1, 0, 0, 0, .null) := by decide +kernel
theorem f44_8 : am_tab 44 8 = some (.getfield 15, 3, 3, 1, 1041, .null) := by decide +kernel
theorem f44_11 : am_tab 44 11 = some (.iload_n 1, 1, 0, 0, 0, .null) := by decide +kernel
theorem f44_12 : am_tab 44 12 = some (.iaload, 1, 0, 0, 0, .null) := by decide +kernel
theorem f44_13 : am_tab 44 13 = some (.goto 4, 3, 17, 0, 0, .null) := by decide +kernel
theorem f44_16 : am_tab 44 16 = some (.iconst 0, 1, 0, 0, 0, .null) := by decide +kernel
theorem f44_17 : am_tab 44 17 = some (.ireturn, 1, 0, 0, 0, .null) := by decide +kernel
theorem f45_0 : am_tab 45 0 = some (.iload_n 2, 1, 0, 0, 0, .null) := by decide +kernel
theorem f45_1 : am_tab 45 1 = some (.lookupswitch 41 #[(1, 27), (2, 33)], 27, 0, 0, 0, .null) := by decide +kernel
theorem f45_28 : am_tab 45 28 = some (.aload_n 0, 1, 0, 0, 0, .null) := by decide +kernel
theorem f45_29 : am_tab 45 29 = some (.iload_n 1, 1, 0, 0, 0, .null) := by decide +kernel
theorem f45_30 : am_tab 45 30 = some (.invokevirtual 61, 3, 43, 2, 3057, .int 0) := by decide +kernel
theorem f45_33 : am_tab 45 33 = some (.ireturn, 1, 0, 0, 0, .null) := by decide +kernel
theorem f45_34 : am_tab 45 34 = some (.aload_n 0, 1, 0, 0, 0, .null) := by decide +kernel
theorem f45_35 : am_tab 45 35 = some (.iload_n 1, 1, 0, 0, 0, .null) := by decide +kernel
theorem f45_36 : am_tab 45 36 = some (.invokevirtual 65, 3, 44, 2, 3058, .int 0) := by decide +kernel
theorem f45_39 : am_tab 45 39 = some (.iconst 1, 1, 0, 0, 0, .null) := by decide +kernel
theorem f45_40 : am_tab 45 40 = some (.iadd, 1, 0, 0, 0, .null) := by decide +kernel
theorem f45_41 : am_tab 45 41 = some (.ireturn, 1, 0, 0, 0, .null) := by decide +kernel
theorem f45_42 : am_tab 45 42 = some (.iconst 1, 1, 0, 0, 0, .null) := by decide +kernel
theorem f45_43 : am_tab 45 43 = some (.ireturn, 1, 0, 0, 0, .null) := by decide +kernel
theorem f46_0 : am_tab 46 0 = some (.iload_n 1, 1, 0, 0, 0, .null) := by decide +kernel
theorem f46_1 : am_tab 46 1 = some (.ifCond .lt 18, 3, 19, 0, 0, .null) := by decide +kernel
theorem f46_4 : am_tab 46 4 = some (.iload_n 1, 1, 0, 0, 0, .null) := by decide +kernel
theorem f46_5 : am_tab 46 5 = some (.bipush 12, 2, 0, 0, 0, .null) := by decide +kernel
theorem f46_7 : am_tab 46 7 = some (.if_icmp .ge 12, 3, 19, 0, 0, .null) := by decide +kernel
theorem f46_10 : am_tab 46 10 = some (.aload_n 0, 1, 0, 0, 0, .null) := by decide +kernel
theorem f46_11 : am_tab 46 11 = some (.getfield 18, 3, 3, 2, 1042, .null) := by decide +kernel
theorem f46_14 : am_tab 46 14 = some (.iload_n 1, 1, 0, 0, 0, .null) := by decide +kernel
theorem f46_15 : am_tab 46 15 = some (.iaload, 1, 0, 0, 0, .null) := by decide +kernel
theorem f46_16 : am_tab 46 16 = some (.goto 4, 3, 20, 0, 0, .null) := by decide +kernel
theorem f46_19 : am_tab 46 19 = some (.iconst 0, 1, 0, 0, 0, .null) := by decide +kernel
theorem f46_20 : am_tab 46 20 = some (.ireturn, 1, 0, 0, 0, .null) := by decide +kernel
theorem f47_0 : am_tab 47 0 = some (.iload_n 1, 1, 0, 0, 0, .null) := by decide +kernel
theorem f47_1 : am_tab 47 1 = some (.ifCond .lt 18, 3, 19, 0, 0, .null) := by decide +kernel
theorem f47_4 : am_tab 47 4 = some (.iload_n 1, 1, 0, 0, 0, .null) := by decide +kernel
theorem f47_5 : am_tab 47 5 = some (.bipush 12, 2, 0, 0, 0, .null) := by decide +kernel
theorem f47_7 : am_tab 47 7 = some (.if_icmp .ge 12, 3, 19, 0, 0, .null) := by decide +kernel
theorem f47_10 : am_tab 47 10 = some (.aload_n 0, 1, 0, 0, 0, .null) := by decide +kernel
theorem f47_11 : am_tab 47 11 = some (.getfield 21, 3, 3, 3, 1043, .null) := by decide +kernel
theorem f47_14 : am_tab 47 14 = some (.iload_n 1, 1, 0, 0, 0, .null) := by decide +kernel
theorem f47_15 : am_tab 47 15 = some (.iaload, 1, 0, 0, 0, .null) := by decide +kernel
theorem f47_16 : am_tab 47 16 = some (.goto 4, 3, 20, 0, 0, .null) := by decide +kernel
theorem f47_19 : am_tab 47 19 = some (.iconst 0, 1, 0, 0, 0, .null) := by decide +kernel
theorem f47_20 : am_tab 47 20 = some (.ireturn, 1, 0, 0, 0, .null) := by decide +kernel
theorem f48_0 : am_tab 48 0 = some (.aload_n 0, 1, 0, 0, 0, .null) := by decide +kernel
theorem f48_1 : am_tab 48 1 = some (.getfield 34, 3, 3, 4, 1044, .null) := by decide +kernel
theorem f48_4 : am_tab 48 4 = some (.invokestatic 68, 3, 231, 1, 2123, .int 2) := by decide +kernel
theorem f48_7 : am_tab 48 7 = some (.iconst 1, 1, 0, 0, 0, .null) := by decide +kernel
theorem f48_8 : am_tab 48 8 = some (.iadd, 1, 0, 0, 0, .null) := by decide +kernel
theorem f48_9 : am_tab 48 9 = some (.ireturn, 1, 0, 0, 0, .null) := by decide +kernel
theorem f49_0 : am_tab 49 0 = some (.iload_n 1, 1, 0, 0, 0, .null) := by decide +kernel
theorem f49_1 : am_tab 49 1 = some (.ifCond .lt 15, 3, 16, 0, 0, .null) := by decide +kernel
theorem f49_4 : am_tab 49 4 = some (.iload_n 1, 1, 0, 0, 0, .null) := by decide +kernel
theorem f49_5 : am_tab 49 5 = some (.aload_n 0, 1, 0, 0, 0, .null) := by decide +kernel
theorem f49_6 : am_tab 49 6 = some (.invokevirtual 74, 3, 48, 1, 2194, .int 0) := by decide +kernel
theorem f49_9 : am_tab 49 9 = some (.if_icmp .ge 7, 3, 16, 0, 0, .null) := by decide +kernel
theorem f49_12 : am_tab 49 12 = some (.iconst 1, 1, 0, 0, 0, .null) := by decide +kernel
theorem f49_13 : am_tab 49 13 = some (.goto 4, 3, 17, 0, 0, .null) := by decide +kernel
theorem f49_16 : am_tab 49 16 = some (.iconst 0, 1, 0, 0, 0, .null) := by decide +kernel
theorem f49_17 : am_tab 49 17 = some (.ireturn, 1, 0, 0, 0, .null) := by decide +kernel
theorem f50_0 : am_tab 50 0 = some (.iload_n 1, 1, 0, 0, 0, .null) := by decide +kernel
theorem f50_1 : am_tab 50 1 = some (.ifCond .gt 5, 3, 6, 0, 0, .null) := by decide +kernel
theorem f50_4 : am_tab 50 4 = some (.iconst 0, 1, 0, 0, 0, .null) := by decide +kernel
theorem f50_5 : am_tab 50 5 = some (.ireturn, 1, 0, 0, 0, .null) := by decide +kernel
theorem f50_6 : am_tab 50 6 = some (.iconst 0, 1, 0, 0, 0, .null) := by decide +kernel
theorem f50_7 : am_tab 50 7 = some (.istore_n 2, 1, 0, 0, 0, .null) := by decide +kernel
theorem f50_8 : am_tab 50 8 = some (.iconst 1, 1, 0, 0, 0, .null) := by decide +kernel
theorem f50_9 : am_tab 50 9 = some (.istore_n 3, 1, 0, 0, 0, .null) := by decide +kernel
theorem f50_10 : am_tab 50 10 = some (.iload_n 3, 1, 0, 0, 0, .null) := by decide +kernel
theorem f50_11 : am_tab 50 11 = some (.bipush 48, 2, 0, 0, 0, .null) := by decide +kernel
theorem f50_13 : am_tab 50 13 = some (.if_icmp .ge 27, 3, 40, 0, 0, .null) := by decide +kernel
theorem f50_16 : am_tab 50 16 = some (.iload_n 2, 1, 0, 0, 0, .null) := by decide +kernel
theorem f50_17 : am_tab 50 17 = some (.aload_n 0, 1, 0, 0, 0, .null) := by decide +kernel
theorem f50_18 : am_tab 50 18 = some (.getfield 34, 3, 3, 4, 1044, .null) := by decide +kernel
theorem f50_21 : am_tab 50 21 = some (.iload_n 3, 1, 0, 0, 0, .null) := by decide +kernel
theorem f50_22 : am_tab 50 22 = some (.invokestatic 78, 3, 141, 2, 2168, .int 3) := by decide +kernel
theorem f50_25 : am_tab 50 25 = some (.iadd, 1, 0, 0, 0, .null) := by decide +kernel
theorem f50_26 : am_tab 50 26 = some (.istore_n 2, 1, 0, 0, 0, .null) := by decide +kernel
theorem f50_27 : am_tab 50 27 = some (.iload_n 2, 1, 0, 0, 0, .null) := by decide +kernel
theorem f50_28 : am_tab 50 28 = some (.iload_n 1, 1, 0, 0, 0, .null) := by decide +kernel
theorem f50_29 : am_tab 50 29 = some (.if_icmp .ne 5, 3, 34, 0, 0, .null) := by decide +kernel
theorem f50_32 : am_tab 50 32 = some (.iload_n 3, 1, 0, 0, 0, .null) := by decide +kernel
theorem f50_33 : am_tab 50 33 = some (.ireturn, 1, 0, 0, 0, .null) := by decide +kernel
theorem f50_34 : am_tab 50 34 = some (.iinc 3 1, 3, 0, 0, 0, .null) := by decide +kernel
theorem f50_37 : am_tab 50 37 = some (.goto (-27), 3, 10, 0, 0, .null) := by decide +kernel
theorem f50_40 : am_tab 50 40 = some (.bipush 48, 2, 0, 0, 0, .null) := by decide +kernel
theorem f50_42 : am_tab 50 42 = some (.ireturn, 1, 0, 0, 0, .null) := by decide +kernel
theorem f51_0 : am_tab 51 0 = some (.ldc2_w 82, 3, 0, 0, 2122, .long (2)) := by decide +kernel
theorem f51_3 : am_tab 51 3 = some (.iload_n 1, 1, 0, 0, 0, .null) := by decide +kernel
theorem f51_4 : am_tab 51 4 = some (.lshl, 1, 0, 0, 0, .null) := by decide +kernel
theorem f51_5 : am_tab 51 5 = some (.lconst 1, 1, 0, 0, 0, .null) := by decide +kernel
theorem f51_6 : am_tab 51 6 = some (.lsub, 1, 0, 0, 0, .null) := by decide +kernel
theorem f51_7 : am_tab 51 7 = some (.lstore_n 2, 1, 0, 0, 0, .null) := by decide +kernel
theorem f51_8 : am_tab 51 8 = some (.aload_n 0, 1, 0, 0, 0, .null) := by decide +kernel
theorem f51_9 : am_tab 51 9 = some (.getfield 34, 3, 3, 4, 1044, .null) := by decide +kernel
theorem f51_12 : am_tab 51 12 = some (.lload_n 2, 1, 0, 0, 0, .null) := by decide +kernel
theorem f51_13 : am_tab 51 13 = some (.land, 1, 0, 0, 0, .null) := by decide +kernel
theorem f51_14 : am_tab 51 14 = some (.invokestatic 68, 3, 231, 1, 2123, .int 2) := by decide +kernel
theorem f51_17 : am_tab 51 17 = some (.ireturn, 1, 0, 0, 0, .null) := by decide +kernel
theorem f52_0 : am_tab 52 0 = some (.iconst 0, 1, 0, 0, 0, .null) := by decide +kernel
theorem f52_1 : am_tab 52 1 = some (.istore_n 3, 1, 0, 0, 0, .null) := by decide +kernel
theorem f52_2 : am_tab 52 2 = some (.iload_n 2, 1, 0, 0, 0, .null) := by decide +kernel
theorem f52_3 : am_tab 52 3 = some (.bipush 48, 2, 0, 0, 0, .null) := by decide +kernel
theorem f52_5 : am_tab 52 5 = some (.invokestatic 84, 3, 0, 0, 2158, .int 11) := by decide +kernel
theorem f52_8 : am_tab 52 8 = some (.istore 4, 2, 0, 0, 0, .null) := by decide +kernel
theorem f52_10 : am_tab 52 10 = some (.iload_n 1, 1, 0, 0, 0, .null) := by decide +kernel
theorem f52_11 : am_tab 52 11 = some (.iconst 0, 1, 0, 0, 0, .null) := by decide +kernel
theorem f52_12 : am_tab 52 12 = some (.invokestatic 90, 3, 0, 0, 2161, .int 10) := by decide +kernel
theorem f52_15 : am_tab 52 15 = some (.istore 5, 2, 0, 0, 0, .null) := by decide +kernel
theorem f52_17 : am_tab 52 17 = some (.iload 5, 2, 0, 0, 0, .null) := by decide +kernel
theorem f52_19 : am_tab 52 19 = some (.iload 4, 2, 0, 0, 0, .null) := by decide +kernel
theorem f52_21 : am_tab 52 21 = some (.if_icmp .ge 19, 3, 40, 0, 0, .null) := by decide +kernel
theorem f52_24 : am_tab 52 24 = some (.iload_n 3, 1, 0, 0, 0, .null) := by decide +kernel
theorem f52_25 : am_tab 52 25 = some (.aload_n 0, 1, 0, 0, 0, .null) := by decide +kernel
theorem f52_26 : am_tab 52 26 = some (.getfield 9, 3, 3, 0, 1040, .null) := by decide +kernel
theorem f52_29 : am_tab 52 29 = some (.iload 5, 2, 0, 0, 0, .null) := by decide +kernel
theorem f52_31 : am_tab 52 31 = some (.iaload, 1, 0, 0, 0, .null) := by decide +kernel
theorem f52_32 : am_tab 52 32 = some (.iadd, 1, 0, 0, 0, .null) := by decide +kernel
theorem f52_33 : am_tab 52 33 = some (.istore_n 3, 1, 0, 0, 0, .null) := by decide +kernel
theorem f52_34 : am_tab 52 34 = some (.iinc 5 1, 3, 0, 0, 0, .null) := by decide +kernel
theorem f52_37 : am_tab 52 37 = some (.goto (-20), 3, 17, 0, 0, .null) := by decide +kernel
theorem f52_40 : am_tab 52 40 = some (.iload_n 3, 1, 0, 0, 0, .null) := by decide +kernel
theorem f52_41 : am_tab 52 41 = some (.ireturn, 1, 0, 0, 0, .null) := by decide +kernel
theorem f53_0 : am_tab 53 0 = some (.iconst 0, 1, 0, 0, 0, .null) := by decide +kernel
theorem f53_1 : am_tab 53 1 = some (.istore_n 3, 1, 0, 0, 0, .null) := by decide +kernel
theorem f53_2 : am_tab 53 2 = some (.iload_n 2, 1, 0, 0, 0, .null) := by decide +kernel
theorem f53_3 : am_tab 53 3 = some (.bipush 48, 2, 0, 0, 0, .null) := by decide +kernel
theorem f53_5 : am_tab 53 5 = some (.invokestatic 84, 3, 0, 0, 2158, .int 11) := by decide +kernel
theorem f53_8 : am_tab 53 8 = some (.istore 4, 2, 0, 0, 0, .null) := by decide +kernel
theorem f53_10 : am_tab 53 10 = some (.iload_n 1, 1, 0, 0, 0, .null) := by decide +kernel
theorem f53_11 : am_tab 53 11 = some (.iconst 0, 1, 0, 0, 0, .null) := by decide +kernel
theorem f53_12 : am_tab 53 12 = some (.invokestatic 90, 3, 0, 0, 2161, .int 10) := by decide +kernel
theorem f53_15 : am_tab 53 15 = some (.istore 5, 2, 0, 0, 0, .null) := by decide +kernel
theorem f53_17 : am_tab 53 17 = some (.iload 5, 2, 0, 0, 0, .null) := by decide +kernel
theorem f53_19 : am_tab 53 19 = some (.iload 4, 2, 0, 0, 0, .null) := by decide +kernel
theorem f53_21 : am_tab 53 21 = some (.if_icmp .ge 31, 3, 52, 0, 0, .null) := by decide +kernel
theorem f53_24 : am_tab 53 24 = some (.aload_n 0, 1, 0, 0, 0, .null) := by decide +kernel
theorem f53_25 : am_tab 53 25 = some (.getfield 38, 3, 3, 5, 1045, .null) := by decide +kernel
theorem f53_28 : am_tab 53 28 = some (.iload 5, 2, 0, 0, 0, .null) := by decide +kernel
theorem f53_30 : am_tab 53 30 = some (.invokestatic 78, 3, 141, 2, 2168, .int 3) := by decide +kernel
theorem f53_33 : am_tab 53 33 = some (.ifCond .ne 13, 3, 46, 0, 0, .null) := by decide +kernel
theorem f53_36 : am_tab 53 36 = some (.iload_n 3, 1, 0, 0, 0, .null) := by decide +kernel
theorem f53_37 : am_tab 53 37 = some (.aload_n 0, 1, 0, 0, 0, .null) := by decide +kernel
theorem f53_38 : am_tab 53 38 = some (.getfield 9, 3, 3, 0, 1040, .null) := by decide +kernel
theorem f53_41 : am_tab 53 41 = some (.iload 5, 2, 0, 0, 0, .null) := by decide +kernel
theorem f53_43 : am_tab 53 43 = some (.iaload, 1, 0, 0, 0, .null) := by decide +kernel
theorem f53_44 : am_tab 53 44 = some (.iadd, 1, 0, 0, 0, .null) := by decide +kernel
theorem f53_45 : am_tab 53 45 = some (.istore_n 3, 1, 0, 0, 0, .null) := by decide +kernel
theorem f53_46 : am_tab 53 46 = some (.iinc 5 1, 3, 0, 0, 0, .null) := by decide +kernel
theorem f53_49 : am_tab 53 49 = some (.goto (-32), 3, 17, 0, 0, .null) := by decide +kernel
theorem f53_52 : am_tab 53 52 = some (.iload_n 3, 1, 0, 0, 0, .null) := by decide +kernel
theorem f53_53 : am_tab 53 53 = some (.ireturn, 1, 0, 0, 0, .null) := by decide +kernel
theorem f54_0 : am_tab 54 0 = some (.iconst 0, 1, 0, 0, 0, .null) := by decide +kernel
theorem f54_1 : am_tab 54 1 = some (.istore_n 1, 1, 0, 0, 0, .null) := by decide +kernel
theorem f54_2 : am_tab 54 2 = some (.iconst 0, 1, 0, 0, 0, .null) := by decide +kernel
theorem f54_3 : am_tab 54 3 = some (.istore_n 2, 1, 0, 0, 0, .null) := by decide +kernel
theorem f54_4 : am_tab 54 4 = some (.iload_n 2, 1, 0, 0, 0, .null) := by decide +kernel
theorem f54_5 : am_tab 54 5 = some (.bipush 48, 2, 0, 0, 0, .null) := by decide +kernel
theorem f54_7 : am_tab 54 7 = some (.if_icmp .ge 18, 3, 25, 0, 0, .null) := by decide +kernel
theorem f54_10 : am_tab 54 10 = some (.iload_n 1, 1, 0, 0, 0, .null) := by decide +kernel
theorem f54_11 : am_tab 54 11 = some (.aload_n 0, 1, 0, 0, 0, .null) := by decide +kernel
theorem f54_12 : am_tab 54 12 = some (.getfield 15, 3, 3, 1, 1041, .null) := by decide +kernel
theorem f54_15 : am_tab 54 15 = some (.iload_n 2, 1, 0, 0, 0, .null) := by decide +kernel
theorem f54_16 : am_tab 54 16 = some (.iaload, 1, 0, 0, 0, .null) := by decide +kernel
theorem f54_17 : am_tab 54 17 = some (.iadd, 1, 0, 0, 0, .null) := by decide +kernel
theorem f54_18 : am_tab 54 18 = some (.istore_n 1, 1, 0, 0, 0, .null) := by decide +kernel
theorem f54_19 : am_tab 54 19 = some (.iinc 2 1, 3, 0, 0, 0, .null) := by decide +kernel
theorem f54_22 : am_tab 54 22 = some (.goto (-18), 3, 4, 0, 0, .null) := by decide +kernel
theorem f54_25 : am_tab 54 25 = some (.iload_n 1, 1, 0, 0, 0, .null) := by decide +kernel
theorem f54_26 : am_tab 54 26 = some (.ireturn, 1, 0, 0, 0, .null) := by decide +kernel
theorem f55_0 : am_tab 55 0 = some (.iconst 0, 1, 0, 0, 0, .null) := by decide +kernel
theorem f55_1 : am_tab 55 1 = some (.istore_n 1, 1, 0, 0, 0, .null) := by decide +kernel
theorem f55_2 : am_tab 55 2 = some (.iconst 0, 1, 0, 0, 0, .null) := by decide +kernel
theorem f55_3 : am_tab 55 3 = some (.istore_n 2, 1, 0, 0, 0, .null) := by decide +kernel
theorem f55_4 : am_tab 55 4 = some (.iload_n 2, 1, 0, 0, 0, .null) := by decide +kernel
theorem f55_5 : am_tab 55 5 = some (.bipush 12, 2, 0, 0, 0, .null) := by decide +kernel
theorem f55_7 : am_tab 55 7 = some (.if_icmp .ge 18, 3, 25, 0, 0, .null) := by decide +kernel
theorem f55_10 : am_tab 55 10 = some (.iload_n 1, 1, 0, 0, 0, .null) := by decide +kernel
theorem f55_11 : am_tab 55 11 = some (.aload_n 0, 1, 0, 0, 0, .null) := by decide +kernel
theorem f55_12 : am_tab 55 12 = some (.getfield 21, 3, 3, 3, 1043, .null) := by decide +kernel
theorem f55_15 : am_tab 55 15 = some (.iload_n 2, 1, 0, 0, 0, .null) := by decide +kernel
theorem f55_16 : am_tab 55 16 = some (.iaload, 1, 0, 0, 0, .null) := by decide +kernel
theorem f55_17 : am_tab 55 17 = some (.iadd, 1, 0, 0, 0, .null) := by decide +kernel
theorem f55_18 : am_tab 55 18 = some (.istore_n 1, 1, 0, 0, 0, .null) := by decide +kernel
theorem f55_19 : am_tab 55 19 = some (.iinc 2 1, 3, 0, 0, 0, .null) := by decide +kernel
theorem f55_22 : am_tab 55 22 = some (.goto (-18), 3, 4, 0, 0, .null) := by decide +kernel
theorem f55_25 : am_tab 55 25 = some (.iload_n 1, 1, 0, 0, 0, .null) := by decide +kernel
theorem f55_26 : am_tab 55 26 = some (.ireturn, 1, 0, 0, 0, .null) := by decide +kernel
theorem f56_0 : am_tab 56 0 = some (.aload_n 0, 1, 0, 0, 0, .null) := by decide +kernel
theorem f56_1 : am_tab 56 1 = some (.getfield 44, 3, 3, 7, 1050, .null) := by decide +kernel
theorem f56_4 : am_tab 56 4 = some (.ifCond .ne 10, 3, 14, 0, 0, .null) := by decide +kernel
theorem f56_7 : am_tab 56 7 = some (.aload_n 0, 1, 0, 0, 0, .null) := by decide +kernel
theorem f56_8 : am_tab 56 8 = some (.getfield 24, 3, 3, 8, 1052, .null) := by decide +kernel
theorem f56_11 : am_tab 56 11 = some (.ifCond .ne 7, 3, 18, 0, 0, .null) := by decide +kernel
theorem f56_14 : am_tab 56 14 = some (.iconst 1, 1, 0, 0, 0, .null) := by decide +kernel
theorem f56_15 : am_tab 56 15 = some (.goto 4, 3, 19, 0, 0, .null) := by decide +kernel
theorem f56_18 : am_tab 56 18 = some (.iconst 0, 1, 0, 0, 0, .null) := by decide +kernel
theorem f56_19 : am_tab 56 19 = some (.ireturn, 1, 0, 0, 0, .null) := by decide +kernel
theorem f57_0 : am_tab 57 0 = some (.iload_n 1, 1, 0, 0, 0, .null) := by decide +kernel
theorem f57_1 : am_tab 57 1 = some (.invokestatic 93, 3, 135, 1, 3223, .int 3) := by decide +kernel
theorem f57_4 : am_tab 57 4 = some (.ifCond .eq 35, 3, 39, 0, 0, .null) := by decide +kernel
theorem f57_7 : am_tab 57 7 = some (.iload_n 2, 1, 0, 0, 0, .null) := by decide +kernel
theorem f57_8 : am_tab 57 8 = some (.ifCond .eq 27, 3, 35, 0, 0, .null) := by decide +kernel
theorem f57_11 : am_tab 57 11 = some (.aload_n 0, 1, 0, 0, 0, .null) := by decide +kernel
theorem f57_12 : am_tab 57 12 = some (.getfield 34, 3, 3, 4, 1044, .null) := by decide +kernel
theorem f57_15 : am_tab 57 15 = some (.iload_n 1, 1, 0, 0, 0, .null) := by decide +kernel
theorem f57_16 : am_tab 57 16 = some (.invokestatic 78, 3, 141, 2, 2168, .int 3) := by decide +kernel
theorem f57_19 : am_tab 57 19 = some (.iconst 1, 1, 0, 0, 0, .null) := by decide +kernel
theorem f57_20 : am_tab 57 20 = some (.if_icmp .eq 15, 3, 35, 0, 0, .null) := by decide +kernel
theorem f57_23 : am_tab 57 23 = some (.aload_n 0, 1, 0, 0, 0, .null) := by decide +kernel
theorem f57_24 : am_tab 57 24 = some (.getfield 34, 3, 3, 4, 1044, .null) := by decide +kernel
theorem f57_27 : am_tab 57 27 = some (.invokestatic 68, 3, 231, 1, 2123, .int 2) := by decide +kernel
theorem f57_30 : am_tab 57 30 = some (.bipush 11, 2, 0, 0, 0, .null) := by decide +kernel
theorem f57_32 : am_tab 57 32 = some (.if_icmp .ge 7, 3, 39, 0, 0, .null) := by decide +kernel
theorem f57_35 : am_tab 57 35 = some (.iconst 1, 1, 0, 0, 0, .null) := by decide +kernel
theorem f57_36 : am_tab 57 36 = some (.goto 4, 3, 40, 0, 0, .null) := by decide +kernel
theorem f57_39 : am_tab 57 39 = some (.iconst 0, 1, 0, 0, 0, .null) := by decide +kernel
theorem f57_40 : am_tab 57 40 = some (.ireturn, 1, 0, 0, 0, .null) := by decide +kernel
theorem f58_0 : am_tab 58 0 = some (.iload_n 1, 1, 0, 0, 0, .null) := by decide +kernel
theorem f58_1 : am_tab 58 1 = some (.invokestatic 57, 3, 134, 1, 2110, .int 3) := by decide +kernel
theorem f58_4 : am_tab 58 4 = some (.ifCond .eq 10, 3, 14, 0, 0, .null) := by decide +kernel
theorem f58_7 : am_tab 58 7 = some (.aload_n 0, 1, 0, 0, 0, .null) := by decide +kernel
theorem f58_8 : am_tab 58 8 = some (.getfield 9, 3, 3, 0, 1040, .null) := by decide +kernel
theorem f58_11 : am_tab 58 11 = some (.iload_n 1, 1, 0, 0, 0, .null) := by decide +kernel
theorem f58_12 : am_tab 58 12 = some (.iload_n 2, 1, 0, 0, 0, .null) := by decide +kernel
theorem f58_13 : am_tab 58 13 = some (.iastore, 1, 0, 0, 0, .null) := by decide +kernel
theorem f58_14 : am_tab 58 14 = some (.return_, 1, 0, 0, 0, .null) := by decide +kernel
theorem f59_0 : am_tab 59 0 = some (.aload_n 0, 1, 0, 0, 0, .null) := by decide +kernel
theorem f59_1 : am_tab 59 1 = some (.iload_n 2, 1, 0, 0, 0, .null) := by decide +kernel
theorem f59_2 : am_tab 59 2 = some (.ifCond .eq 14, 3, 16, 0, 0, .null) := by decide +kernel
theorem f59_5 : am_tab 59 5 = some (.aload_n 0, 1, 0, 0, 0, .null) := by decide +kernel
theorem f59_6 : am_tab 59 6 = some (.getfield 38, 3, 3, 5, 1045, .null) := by decide +kernel
theorem f59_9 : am_tab 59 9 = some (.lconst 1, 1, 0, 0, 0, .null) := by decide +kernel
theorem f59_10 : am_tab 59 10 = some (.iload_n 1, 1, 0, 0, 0, .null) := by decide +kernel
theorem f59_11 : am_tab 59 11 = some (.lshl, 1, 0, 0, 0, .null) := by decide +kernel
theorem f59_12 : am_tab 59 12 = some (.lor, 1, 0, 0, 0, .null) := by decide +kernel
theorem f59_13 : am_tab 59 13 = some (.goto 15, 3, 28, 0, 0, .null) := by decide +kernel
theorem f59_16 : am_tab 59 16 = some (.aload_n 0, 1, 0, 0, 0, .null) := by decide +kernel
theorem f59_17 : am_tab 59 17 = some (.getfield 38, 3, 3, 5, 1045, .null) := by decide +kernel
theorem f59_20 : am_tab 59 20 = some (.lconst 1, 1, 0, 0, 0, .null) := by decide +kernel
theorem f59_21 : am_tab 59 21 = some (.iload_n 1, 1, 0, 0, 0, .null) := by decide +kernel
theorem f59_22 : am_tab 59 22 = some (.lshl, 1, 0, 0, 0, .null) := by decide +kernel
theorem f59_23 : am_tab 59 23 = some (.ldc2_w 96, 3, 0, 0, 3189, .long (-1)) := by decide +kernel
theorem f59_26 : am_tab 59 26 = some (.lxor, 1, 0, 0, 0, .null) := by decide +kernel
theorem f59_27 : am_tab 59 27 = some (.land, 1, 0, 0, 0, .null) := by decide +kernel
theorem f59_28 : am_tab 59 28 = some (.putfield 38, 3, 3, 5, 1045, .null) := by decide +kernel
theorem f59_31 : am_tab 59 31 = some (.return_, 1, 0, 0, 0, .null) := by decide +kernel
theorem f60_0 : am_tab 60 0 = some (.aload_n 0, 1, 0, 0, 0, .null) := by decide +kernel
theorem f60_1 : am_tab 60 1 = some (.iload_n 1, 1, 0, 0, 0, .null) := by decide +kernel
theorem f60_2 : am_tab 60 2 = some (.invokevirtual 98, 3, 49, 2, 4018, .int 0) := by decide +kernel
theorem f60_5 : am_tab 60 5 = some (.ifCond .eq 16, 3, 21, 0, 0, .null) := by decide +kernel
theorem f60_8 : am_tab 60 8 = some (.iload_n 1, 1, 0, 0, 0, .null) := by decide +kernel
theorem f60_9 : am_tab 60 9 = some (.bipush 12, 2, 0, 0, 0, .null) := by decide +kernel
theorem f60_11 : am_tab 60 11 = some (.if_icmp .ge 10, 3, 21, 0, 0, .null) := by decide +kernel
theorem f60_14 : am_tab 60 14 = some (.aload_n 0, 1, 0, 0, 0, .null) := by decide +kernel
theorem f60_15 : am_tab 60 15 = some (.getfield 18, 3, 3, 2, 1042, .null) := by decide +kernel
theorem f60_18 : am_tab 60 18 = some (.iload_n 1, 1, 0, 0, 0, .null) := by decide +kernel
theorem f60_19 : am_tab 60 19 = some (.iload_n 2, 1, 0, 0, 0, .null) := by decide +kernel
theorem f60_20 : am_tab 60 20 = some (.iastore, 1, 0, 0, 0, .null) := by decide +kernel
theorem f60_21 : am_tab 60 21 = some (.return_, 1, 0, 0, 0, .null) := by decide +kernel
theorem f61_0 : am_tab 61 0 = some (.iload_n 2, 1, 0, 0, 0, .null) := by decide +kernel
theorem f61_1 : am_tab 61 1 = some (.ifCond .eq 14, 3, 15, 0, 0, .null) := by decide +kernel
theorem f61_4 : am_tab 61 4 = some (.aload_n 0, 1, 0, 0, 0, .null) := by decide +kernel
theorem f61_5 : am_tab 61 5 = some (.getfield 34, 3, 3, 4, 1044, .null) := by decide +kernel
theorem f61_8 : am_tab 61 8 = some (.lconst 1, 1, 0, 0, 0, .null) := by decide +kernel
theorem f61_9 : am_tab 61 9 = some (.iload_n 1, 1, 0, 0, 0, .null) := by decide +kernel
theorem f61_10 : am_tab 61 10 = some (.lshl, 1, 0, 0, 0, .null) := by decide +kernel
theorem f61_11 : am_tab 61 11 = some (.lor, 1, 0, 0, 0, .null) := by decide +kernel
theorem f61_12 : am_tab 61 12 = some (.goto 15, 3, 27, 0, 0, .null) := by decide +kernel
theorem f61_15 : am_tab 61 15 = some (.aload_n 0, 1, 0, 0, 0, .null) := by decide +kernel
theorem f61_16 : am_tab 61 16 = some (.getfield 34, 3, 3, 4, 1044, .null) := by decide +kernel
theorem f61_19 : am_tab 61 19 = some (.lconst 1, 1, 0, 0, 0, .null) := by decide +kernel
theorem f61_20 : am_tab 61 20 = some (.iload_n 1, 1, 0, 0, 0, .null) := by decide +kernel
theorem f61_21 : am_tab 61 21 = some (.lshl, 1, 0, 0, 0, .null) := by decide +kernel
theorem f61_22 : am_tab 61 22 = some (.ldc2_w 96, 3, 0, 0, 3189, .long (-1)) := by decide +kernel
theorem f61_25 : am_tab 61 25 = some (.lxor, 1, 0, 0, 0, .null) := by decide +kernel
theorem f61_26 : am_tab 61 26 = some (.land, 1, 0, 0, 0, .null) := by decide +kernel
theorem f61_27 : am_tab 61 27 = some (.lstore_n 3, 1, 0, 0, 0, .null) := by decide +kernel
theorem f61_28 : am_tab 61 28 = some (.lload_n 3, 1, 0, 0, 0, .null) := by decide +kernel
theorem f61_29 : am_tab 61 29 = some (.aload_n 0, 1, 0, 0, 0, .null) := by decide +kernel
theorem f61_30 : am_tab 61 30 = some (.getfield 34, 3, 3, 4, 1044, .null) := by decide +kernel
theorem f61_33 : am_tab 61 33 = some (.lcmp, 1, 0, 0, 0, .null) := by decide +kernel
theorem f61_34 : am_tab 61 34 = some (.ifCond .eq 8, 3, 42, 0, 0, .null) := by decide +kernel
theorem f61_37 : am_tab 61 37 = some (.aload_n 0, 1, 0, 0, 0, .null) := by decide +kernel
theorem f61_38 : am_tab 61 38 = some (.lload_n 3, 1, 0, 0, 0, .null) := by decide +kernel
theorem f61_39 : am_tab 61 39 = some (.invokevirtual 101, 3, 62, 2, 3229, .int 0) := by decide +kernel
theorem f61_42 : am_tab 61 42 = some (.return_, 1, 0, 0, 0, .null) := by decide +kernel
theorem f62_0 : am_tab 62 0 = some (.aload_n 0, 1, 0, 0, 0, .null) := by decide +kernel
theorem f62_1 : am_tab 62 1 = some (.lload_n 1, 1, 0, 0, 0, .null) := by decide +kernel
theorem f62_2 : am_tab 62 2 = some (.putfield 34, 3, 3, 4, 1044, .null) := by decide +kernel
theorem f62_5 : am_tab 62 5 = some (.aload_n 0, 1, 0, 0, 0, .null) := by decide +kernel
theorem f62_6 : am_tab 62 6 = some (.iconst 0, 1, 0, 0, 0, .null) := by decide +kernel
theorem f62_7 : am_tab 62 7 = some (.putfield 44, 3, 3, 7, 1050, .null) := by decide +kernel
theorem f62_10 : am_tab 62 10 = some (.iconst 0, 1, 0, 0, 0, .null) := by decide +kernel
theorem f62_11 : am_tab 62 11 = some (.istore_n 3, 1, 0, 0, 0, .null) := by decide +kernel
theorem f62_12 : am_tab 62 12 = some (.iload_n 3, 1, 0, 0, 0, .null) := by decide +kernel
theorem f62_13 : am_tab 62 13 = some (.bipush 12, 2, 0, 0, 0, .null) := by decide +kernel
theorem f62_15 : am_tab 62 15 = some (.if_icmp .ge 23, 3, 38, 0, 0, .null) := by decide +kernel
theorem f62_18 : am_tab 62 18 = some (.aload_n 0, 1, 0, 0, 0, .null) := by decide +kernel
theorem f62_19 : am_tab 62 19 = some (.getfield 18, 3, 3, 2, 1042, .null) := by decide +kernel
theorem f62_22 : am_tab 62 22 = some (.iload_n 3, 1, 0, 0, 0, .null) := by decide +kernel
theorem f62_23 : am_tab 62 23 = some (.iconst 0, 1, 0, 0, 0, .null) := by decide +kernel
theorem f62_24 : am_tab 62 24 = some (.iastore, 1, 0, 0, 0, .null) := by decide +kernel
theorem f62_25 : am_tab 62 25 = some (.aload_n 0, 1, 0, 0, 0, .null) := by decide +kernel
theorem f62_26 : am_tab 62 26 = some (.getfield 21, 3, 3, 3, 1043, .null) := by decide +kernel
theorem f62_29 : am_tab 62 29 = some (.iload_n 3, 1, 0, 0, 0, .null) := by decide +kernel
theorem f62_30 : am_tab 62 30 = some (.iconst 0, 1, 0, 0, 0, .null) := by decide +kernel
theorem f62_31 : am_tab 62 31 = some (.iastore, 1, 0, 0, 0, .null) := by decide +kernel
theorem f62_32 : am_tab 62 32 = some (.iinc 3 1, 3, 0, 0, 0, .null) := by decide +kernel
theorem f62_35 : am_tab 62 35 = some (.goto (-23), 3, 12, 0, 0, .null) := by decide +kernel
theorem f62_38 : am_tab 62 38 = some (.return_, 1, 0, 0, 0, .null) := by decide +kernel
theorem f63_0 : am_tab 63 0 = some (.aload_n 0, 1, 0, 0, 0, .null) := by decide +kernel
theorem f63_1 : am_tab 63 1 = some (.iconst 1, 1, 0, 0, 0, .null) := by decide +kernel
theorem f63_2 : am_tab 63 2 = some (.putfield 44, 3, 3, 7, 1050, .null) := by decide +kernel
theorem f63_5 : am_tab 63 5 = some (.aload_n 0, 1, 0, 0, 0, .null) := by decide +kernel
theorem f63_6 : am_tab 63 6 = some (.invokevirtual 74, 3, 48, 1, 2194, .int 0) := by decide +kernel
theorem f63_9 : am_tab 63 9 = some (.istore_n 1, 1, 0, 0, 0, .null) := by decide +kernel
theorem f63_10 : am_tab 63 10 = some (.iconst 0, 1, 0, 0, 0, .null) := by decide +kernel
theorem f63_11 : am_tab 63 11 = some (.istore_n 2, 1, 0, 0, 0, .null) := by decide +kernel
theorem f63_12 : am_tab 63 12 = some (.iload_n 2, 1, 0, 0, 0, .null) := by decide +kernel
theorem f63_13 : am_tab 63 13 = some (.iload_n 1, 1, 0, 0, 0, .null) := by decide +kernel
theorem f63_14 : am_tab 63 14 = some (.if_icmp .ge 44, 3, 58, 0, 0, .null) := by decide +kernel
theorem f63_17 : am_tab 63 17 = some (.iload_n 2, 1, 0, 0, 0, .null) := by decide +kernel
theorem f63_18 : am_tab 63 18 = some (.bipush 12, 2, 0, 0, 0, .null) := by decide +kernel
theorem f63_20 : am_tab 63 20 = some (.if_icmp .ge 38, 3, 58, 0, 0, .null) := by decide +kernel
theorem f63_23 : am_tab 63 23 = some (.aload_n 0, 1, 0, 0, 0, .null) := by decide +kernel
theorem f63_24 : am_tab 63 24 = some (.getfield 21, 3, 3, 3, 1043, .null) := by decide +kernel
theorem f63_27 : am_tab 63 27 = some (.iload_n 2, 1, 0, 0, 0, .null) := by decide +kernel
theorem f63_28 : am_tab 63 28 = some (.aload_n 0, 1, 0, 0, 0, .null) := by decide +kernel
theorem f63_29 : am_tab 63 29 = some (.aload_n 0, 1, 0, 0, 0, .null) := by decide +kernel
theorem f63_30 : am_tab 63 30 = some (.iload_n 2, 1, 0, 0, 0, .null) := by decide +kernel
theorem f63_31 : am_tab 63 31 = some (.invokevirtual 105, 3, 50, 2, 4030, .int 0) := by decide +kernel
theorem f63_34 : am_tab 63 34 = some (.aload_n 0, 1, 0, 0, 0, .null) := by decide +kernel
theorem f63_35 : am_tab 63 35 = some (.iload_n 2, 1, 0, 0, 0, .null) := by decide +kernel
theorem f63_36 : am_tab 63 36 = some (.iconst 1, 1, 0, 0, 0, .null) := by decide +kernel
theorem f63_37 : am_tab 63 37 = some (.iadd, 1, 0, 0, 0, .null) := by decide +kernel
theorem f63_38 : am_tab 63 38 = some (.invokevirtual 105, 3, 50, 2, 4030, .int 0) := by decide +kernel
theorem f63_41 : am_tab 63 41 = some (.invokevirtual 108, 3, 53, 3, 4031, .int 0) := by decide +kernel
theorem f63_44 : am_tab 63 44 = some (.aload_n 0, 1, 0, 0, 0, .null) := by decide +kernel
theorem f63_45 : am_tab 63 45 = some (.getfield 18, 3, 3, 2, 1042, .null) := by decide +kernel
theorem f63_48 : am_tab 63 48 = some (.iload_n 2, 1, 0, 0, 0, .null) := by decide +kernel
theorem f63_49 : am_tab 63 49 = some (.iaload, 1, 0, 0, 0, .null) := by decide +kernel
theorem f63_50 : am_tab 63 50 = some (.iadd, 1, 0, 0, 0, .null) := by decide +kernel
theorem f63_51 : am_tab 63 51 = some (.iastore, 1, 0, 0, 0, .null) := by decide +kernel
theorem f63_52 : am_tab 63 52 = some (.iinc 2 1, 3, 0, 0, 0, .null) := by decide +kernel
theorem f63_55 : am_tab 63 55 = some (.goto (-43), 3, 12, 0, 0, .null) := by decide +kernel
theorem f63_58 : am_tab 63 58 = some (.return_, 1, 0, 0, 0, .null) := by decide +kernel
theorem f64_0 : am_tab 64 0 = some (.aload_n 0, 1, 0, 0, 0, .null) := by decide +kernel
theorem f64_1 : am_tab 64 1 = some (.dup, 1, 0, 0, 0, .null) := by decide +kernel
theorem f64_2 : am_tab 64 2 = some (.getfield 48, 3, 3, 9, 1055, .null) := by decide +kernel
theorem f64_5 : am_tab 64 5 = some (.iload_n 1, 1, 0, 0, 0, .null) := by decide +kernel
theorem f64_6 : am_tab 64 6 = some (.iadd, 1, 0, 0, 0, .null) := by decide +kernel
theorem f64_7 : am_tab 64 7 = some (.putfield 48, 3, 3, 9, 1055, .null) := by decide +kernel
theorem f64_10 : am_tab 64 10 = some (.aload_n 0, 1, 0, 0, 0, .null) := by decide +kernel
theorem f64_11 : am_tab 64 11 = some (.lload_n 2, 1, 0, 0, 0, .null) := by decide +kernel
theorem f64_12 : am_tab 64 12 = some (.putfield 41, 3, 3, 6, 1048, .null) := by decide +kernel
theorem f64_15 : am_tab 64 15 = some (.aload_n 0, 1, 0, 0, 0, .null) := by decide +kernel
theorem f64_16 : am_tab 64 16 = some (.lload_n 2, 1, 0, 0, 0, .null) := by decide +kernel
theorem f64_17 : am_tab 64 17 = some (.aload_n 0, 1, 0, 0, 0, .null) := by decide +kernel
theorem f64_18 : am_tab 64 18 = some (.getfield 38, 3, 3, 5, 1045, .null) := by decide +kernel
theorem f64_21 : am_tab 64 21 = some (.ldc2_w 96, 3, 0, 0, 3189, .long (-1)) := by decide +kernel
theorem f64_24 : am_tab 64 24 = some (.lxor, 1, 0, 0, 0, .null) := by decide +kernel
theorem f64_25 : am_tab 64 25 = some (.land, 1, 0, 0, 0, .null) := by decide +kernel
theorem f64_26 : am_tab 64 26 = some (.invokestatic 68, 3, 231, 1, 2123, .int 2) := by decide +kernel
theorem f64_29 : am_tab 64 29 = some (.putfield 51, 3, 3, 10, 1057, .null) := by decide +kernel
theorem f64_32 : am_tab 64 32 = some (.aload_n 0, 1, 0, 0, 0, .null) := by decide +kernel
theorem f64_33 : am_tab 64 33 = some (.aload_n 0, 1, 0, 0, 0, .null) := by decide +kernel
theorem f64_34 : am_tab 64 34 = some (.getfield 38, 3, 3, 5, 1045, .null) := by decide +kernel
theorem f64_37 : am_tab 64 37 = some (.lload_n 2, 1, 0, 0, 0, .null) := by decide +kernel
theorem f64_38 : am_tab 64 38 = some (.ldc2_w 96, 3, 0, 0, 3189, .long (-1)) := by decide +kernel
theorem f64_41 : am_tab 64 41 = some (.lxor, 1, 0, 0, 0, .null) := by decide +kernel
theorem f64_42 : am_tab 64 42 = some (.land, 1, 0, 0, 0, .null) := by decide +kernel
theorem f64_43 : am_tab 64 43 = some (.invokestatic 68, 3, 231, 1, 2123, .int 2) := by decide +kernel
theorem f64_46 : am_tab 64 46 = some (.putfield 54, 3, 3, 11, 1059, .null) := by decide +kernel
theorem f64_49 : am_tab 64 49 = some (.iconst 0, 1, 0, 0, 0, .null) := by decide +kernel
theorem f64_50 : am_tab 64 50 = some (.istore 4, 2, 0, 0, 0, .null) := by decide +kernel
theorem f64_52 : am_tab 64 52 = some (.iload 4, 2, 0, 0, 0, .null) := by decide +kernel
theorem f64_54 : am_tab 64 54 = some (.bipush 48, 2, 0, 0, 0, .null) := by decide +kernel
theorem f64_56 : am_tab 64 56 = some (.if_icmp .ge 35, 3, 91, 0, 0, .null) := by decide +kernel
theorem f64_59 : am_tab 64 59 = some (.aload_n 0, 1, 0, 0, 0, .null) := by decide +kernel
theorem f64_60 : am_tab 64 60 = some (.getfield 15, 3, 3, 1, 1041, .null) := by decide +kernel
theorem f64_63 : am_tab 64 63 = some (.iload 4, 2, 0, 0, 0, .null) := by decide +kernel
theorem f64_65 : am_tab 64 65 = some (.aload_n 0, 1, 0, 0, 0, .null) := by decide +kernel
theorem f64_66 : am_tab 64 66 = some (.getfield 15, 3, 3, 1, 1041, .null) := by decide +kernel
theorem f64_69 : am_tab 64 69 = some (.iload 4, 2, 0, 0, 0, .null) := by decide +kernel
theorem f64_71 : am_tab 64 71 = some (.iaload, 1, 0, 0, 0, .null) := by decide +kernel
theorem f64_72 : am_tab 64 72 = some (.lload_n 2, 1, 0, 0, 0, .null) := by decide +kernel
theorem f64_73 : am_tab 64 73 = some (.iload 4, 2, 0, 0, 0, .null) := by decide +kernel
theorem f64_75 : am_tab 64 75 = some (.invokestatic 78, 3, 141, 2, 2168, .int 3) := by decide +kernel
theorem f64_78 : am_tab 64 78 = some (.iadd, 1, 0, 0, 0, .null) := by decide +kernel
theorem f64_79 : am_tab 64 79 = some (.bipush 99, 2, 0, 0, 0, .null) := by decide +kernel
theorem f64_81 : am_tab 64 81 = some (.invokestatic 84, 3, 0, 0, 2158, .int 11) := by decide +kernel
theorem f64_84 : am_tab 64 84 = some (.iastore, 1, 0, 0, 0, .null) := by decide +kernel
theorem f64_85 : am_tab 64 85 = some (.iinc 4 1, 3, 0, 0, 0, .null) := by decide +kernel
theorem f64_88 : am_tab 64 88 = some (.goto (-36), 3, 52, 0, 0, .null) := by decide +kernel
theorem f64_91 : am_tab 64 91 = some (.return_, 1, 0, 0, 0, .null) := by decide +kernel
theorem f65_0 : am_tab 65 0 = some (.iconst 0, 1, 0, 0, 0, .null) := by decide +kernel
theorem f65_1 : am_tab 65 1 = some (.istore_n 2, 1, 0, 0, 0, .null) := by decide +kernel
theorem f65_2 : am_tab 65 2 = some (.sipush 4096, 3, 0, 0, 0, .null) := by decide +kernel
theorem f65_5 : am_tab 65 5 = some (.istore_n 3, 1, 0, 0, 0, .null) := by decide +kernel
theorem f65_6 : am_tab 65 6 = some (.iload_n 3, 1, 0, 0, 0, .null) := by decide +kernel
theorem f65_7 : am_tab 65 7 = some (.ifCond .le 25, 3, 32, 0, 0, .null) := by decide +kernel
theorem f65_10 : am_tab 65 10 = some (.aload_n 0, 1, 0, 0, 0, .null) := by decide +kernel
theorem f65_11 : am_tab 65 11 = some (.iload_n 2, 1, 0, 0, 0, .null) := by decide +kernel
theorem f65_12 : am_tab 65 12 = some (.iload_n 3, 1, 0, 0, 0, .null) := by decide +kernel
theorem f65_13 : am_tab 65 13 = some (.iadd, 1, 0, 0, 0, .null) := by decide +kernel
theorem f65_14 : am_tab 65 14 = some (.iload_n 1, 1, 0, 0, 0, .null) := by decide +kernel
theorem f65_15 : am_tab 65 15 = some (.invokevirtual 111, 3, 66, 3, 3148, .int 0) := by decide +kernel
theorem f65_18 : am_tab 65 18 = some (.ifCond .ne 7, 3, 25, 0, 0, .null) := by decide +kernel
theorem f65_21 : am_tab 65 21 = some (.iload_n 2, 1, 0, 0, 0, .null) := by decide +kernel
theorem f65_22 : am_tab 65 22 = some (.iload_n 3, 1, 0, 0, 0, .null) := by decide +kernel
theorem f65_23 : am_tab 65 23 = some (.iadd, 1, 0, 0, 0, .null) := by decide +kernel
theorem f65_24 : am_tab 65 24 = some (.istore_n 2, 1, 0, 0, 0, .null) := by decide +kernel
theorem f65_25 : am_tab 65 25 = some (.iload_n 3, 1, 0, 0, 0, .null) := by decide +kernel
theorem f65_26 : am_tab 65 26 = some (.iconst 1, 1, 0, 0, 0, .null) := by decide +kernel
theorem f65_27 : am_tab 65 27 = some (.ishr, 1, 0, 0, 0, .null) := by decide +kernel
theorem f65_28 : am_tab 65 28 = some (.istore_n 3, 1, 0, 0, 0, .null) := by decide +kernel
theorem f65_29 : am_tab 65 29 = some (.goto (-23), 3, 6, 0, 0, .null) := by decide +kernel
theorem f65_32 : am_tab 65 32 = some (.iload_n 2, 1, 0, 0, 0, .null) := by decide +kernel
theorem f65_33 : am_tab 65 33 = some (.iconst 1, 1, 0, 0, 0, .null) := by decide +kernel
theorem f65_34 : am_tab 65 34 = some (.iadd, 1, 0, 0, 0, .null) := by decide +kernel
theorem f65_35 : am_tab 65 35 = some (.ireturn, 1, 0, 0, 0, .null) := by decide +kernel
theorem f66_0 : am_tab 66 0 = some (.iconst 0, 1, 0, 0, 0, .null) := by decide +kernel
theorem f66_1 : am_tab 66 1 = some (.istore_n 3, 1, 0, 0, 0, .null) := by decide +kernel
theorem f66_2 : am_tab 66 2 = some (.iload_n 3, 1, 0, 0, 0, .null) := by decide +kernel
theorem f66_3 : am_tab 66 3 = some (.bipush 48, 2, 0, 0, 0, .null) := by decide +kernel
theorem f66_5 : am_tab 66 5 = some (.if_icmp .ge 21, 3, 26, 0, 0, .null) := by decide +kernel
theorem f66_8 : am_tab 66 8 = some (.aload_n 0, 1, 0, 0, 0, .null) := by decide +kernel
theorem f66_9 : am_tab 66 9 = some (.getfield 9, 3, 3, 0, 1040, .null) := by decide +kernel
theorem f66_12 : am_tab 66 12 = some (.iload_n 3, 1, 0, 0, 0, .null) := by decide +kernel
theorem f66_13 : am_tab 66 13 = some (.iaload, 1, 0, 0, 0, .null) := by decide +kernel
theorem f66_14 : am_tab 66 14 = some (.iload_n 1, 1, 0, 0, 0, .null) := by decide +kernel
theorem f66_15 : am_tab 66 15 = some (.if_icmp .le 5, 3, 20, 0, 0, .null) := by decide +kernel
theorem f66_18 : am_tab 66 18 = some (.iconst 0, 1, 0, 0, 0, .null) := by decide +kernel
theorem f66_19 : am_tab 66 19 = some (.ireturn, 1, 0, 0, 0, .null) := by decide +kernel
theorem f66_20 : am_tab 66 20 = some (.iinc 3 1, 3, 0, 0, 0, .null) := by decide +kernel
theorem f66_23 : am_tab 66 23 = some (.goto (-21), 3, 2, 0, 0, .null) := by decide +kernel
theorem f66_26 : am_tab 66 26 = some (.aload_n 0, 1, 0, 0, 0, .null) := by decide +kernel
theorem f66_27 : am_tab 66 27 = some (.iload_n 1, 1, 0, 0, 0, .null) := by decide +kernel
theorem f66_28 : am_tab 66 28 = some (.invokevirtual 115, 3, 67, 2, 3152, .int 0) := by decide +kernel
theorem f66_31 : am_tab 66 31 = some (.invokestatic 68, 3, 231, 1, 2123, .int 2) := by decide +kernel
theorem f66_34 : am_tab 66 34 = some (.iload_n 2, 1, 0, 0, 0, .null) := by decide +kernel
theorem f66_35 : am_tab 66 35 = some (.if_icmp .gt 7, 3, 42, 0, 0, .null) := by decide +kernel
theorem f66_38 : am_tab 66 38 = some (.iconst 1, 1, 0, 0, 0, .null) := by decide +kernel
theorem f66_39 : am_tab 66 39 = some (.goto 4, 3, 43, 0, 0, .null) := by decide +kernel
theorem f66_42 : am_tab 66 42 = some (.iconst 0, 1, 0, 0, 0, .null) := by decide +kernel
theorem f66_43 : am_tab 66 43 = some (.ireturn, 1, 0, 0, 0, .null) := by decide +kernel
theorem f67_0 : am_tab 67 0 = some (.lconst 0, 1, 0, 0, 0, .null) := by decide +kernel
theorem f67_1 : am_tab 67 1 = some (.lstore_n 2, 1, 0, 0, 0, .null) := by decide +kernel
theorem f67_2 : am_tab 67 2 = some (.iconst 0, 1, 0, 0, 0, .null) := by decide +kernel
theorem f67_3 : am_tab 67 3 = some (.istore 4, 2, 0, 0, 0, .null) := by decide +kernel
theorem f67_5 : am_tab 67 5 = some (.iconst 0, 1, 0, 0, 0, .null) := by decide +kernel
theorem f67_6 : am_tab 67 6 = some (.istore 5, 2, 0, 0, 0, .null) := by decide +kernel
theorem f67_8 : am_tab 67 8 = some (.iload 5, 2, 0, 0, 0, .null) := by decide +kernel
theorem f67_10 : am_tab 67 10 = some (.bipush 48, 2, 0, 0, 0, .null) := by decide +kernel
theorem f67_12 : am_tab 67 12 = some (.if_icmp .ge 50, 3, 62, 0, 0, .null) := by decide +kernel
theorem f67_15 : am_tab 67 15 = some (.iload 5, 2, 0, 0, 0, .null) := by decide +kernel
theorem f67_17 : am_tab 67 17 = some (.ifCond .le 27, 3, 44, 0, 0, .null) := by decide +kernel
theorem f67_20 : am_tab 67 20 = some (.iload 4, 2, 0, 0, 0, .null) := by decide +kernel
theorem f67_22 : am_tab 67 22 = some (.aload_n 0, 1, 0, 0, 0, .null) := by decide +kernel
theorem f67_23 : am_tab 67 23 = some (.getfield 9, 3, 3, 0, 1040, .null) := by decide +kernel
theorem f67_26 : am_tab 67 26 = some (.iload 5, 2, 0, 0, 0, .null) := by decide +kernel
theorem f67_28 : am_tab 67 28 = some (.iaload, 1, 0, 0, 0, .null) := by decide +kernel
theorem f67_29 : am_tab 67 29 = some (.iadd, 1, 0, 0, 0, .null) := by decide +kernel
theorem f67_30 : am_tab 67 30 = some (.iload_n 1, 1, 0, 0, 0, .null) := by decide +kernel
theorem f67_31 : am_tab 67 31 = some (.if_icmp .le 13, 3, 44, 0, 0, .null) := by decide +kernel
theorem f67_34 : am_tab 67 34 = some (.lload_n 2, 1, 0, 0, 0, .null) := by decide +kernel
theorem f67_35 : am_tab 67 35 = some (.lconst 1, 1, 0, 0, 0, .null) := by decide +kernel
theorem f67_36 : am_tab 67 36 = some (.iload 5, 2, 0, 0, 0, .null) := by decide +kernel
theorem f67_38 : am_tab 67 38 = some (.lshl, 1, 0, 0, 0, .null) := by decide +kernel
theorem f67_39 : am_tab 67 39 = some (.lor, 1, 0, 0, 0, .null) := by decide +kernel
theorem f67_40 : am_tab 67 40 = some (.lstore_n 2, 1, 0, 0, 0, .null) := by decide +kernel
theorem f67_41 : am_tab 67 41 = some (.iconst 0, 1, 0, 0, 0, .null) := by decide +kernel
theorem f67_42 : am_tab 67 42 = some (.istore 4, 2, 0, 0, 0, .null) := by decide +kernel
theorem f67_44 : am_tab 67 44 = some (.iload 4, 2, 0, 0, 0, .null) := by decide +kernel
theorem f67_46 : am_tab 67 46 = some (.aload_n 0, 1, 0, 0, 0, .null) := by decide +kernel
theorem f67_47 : am_tab 67 47 = some (.getfield 9, 3, 3, 0, 1040, .null) := by decide +kernel
theorem f67_50 : am_tab 67 50 = some (.iload 5, 2, 0, 0, 0, .null) := by decide +kernel
theorem f67_52 : am_tab 67 52 = some (.iaload, 1, 0, 0, 0, .null) := by decide +kernel
theorem f67_53 : am_tab 67 53 = some (.iadd, 1, 0, 0, 0, .null) := by decide +kernel
theorem f67_54 : am_tab 67 54 = some (.istore 4, 2, 0, 0, 0, .null) := by decide +kernel
theorem f67_56 : am_tab 67 56 = some (.iinc 5 1, 3, 0, 0, 0, .null) := by decide +kernel
theorem f67_59 : am_tab 67 59 = some (.goto (-51), 3, 8, 0, 0, .null) := by decide +kernel
theorem f67_62 : am_tab 67 62 = some (.lload_n 2, 1, 0, 0, 0, .null) := by decide +kernel
theorem f67_63 : am_tab 67 63 = some (.lreturn, 1, 0, 0, 0, .null) := by decide +kernel
theorem f68_0 : am_tab 68 0 = some (.aload_n 0, 1, 0, 0, 0, .null) := by decide +kernel
theorem f68_1 : am_tab 68 1 = some (.aload_n 0, 1, 0, 0, 0, .null) := by decide +kernel
theorem f68_2 : am_tab 68 2 = some (.iload_n 1, 1, 0, 0, 0, .null) := by decide +kernel
theorem f68_3 : am_tab 68 3 = some (.invokevirtual 119, 3, 65, 2, 4004, .int 0) := by decide +kernel
theorem f68_6 : am_tab 68 6 = some (.invokevirtual 115, 3, 67, 2, 3152, .int 0) := by decide +kernel
theorem f68_9 : am_tab 68 9 = some (.lreturn, 1, 0, 0, 0, .null) := by decide +kernel
theorem f69_0 : am_tab 69 0 = some (.aload_n 0, 1, 0, 0, 0, .null) := by decide +kernel
theorem f69_1 : am_tab 69 1 = some (.invokespecial 3, 3, 0, 0, 1138, .int 6) := by decide +kernel
theorem f69_4 : am_tab 69 4 = some (.aload_n 0, 1, 0, 0, 0, .null) := by decide +kernel
theorem f69_5 : am_tab 69 5 = some (.new 9, 3, 0, 1, 1139, .null) := by decide +kernel
theorem f69_8 : am_tab 69 8 = some (.dup, 1, 0, 0, 0, .null) := by decide +kernel
theorem f69_9 : am_tab 69 9 = some (.invokespecial 11, 3, 23, 1, 1140, .int 5) := by decide +kernel
theorem f69_12 : am_tab 69 12 = some (.putfield 12, 3, 4, 0, 1141, .null) := by decide +kernel
theorem f69_15 : am_tab 69 15 = some (.aload_n 0, 1, 0, 0, 0, .null) := by decide +kernel
theorem f69_16 : am_tab 69 16 = some (.sipush 2401, 3, 0, 0, 0, .null) := by decide +kernel
theorem f69_19 : am_tab 69 19 = some (.newarray .int, 2, 0, 0, 1086, .null) := by decide +kernel
theorem f69_21 : am_tab 69 21 = some (.putfield 18, 3, 4, 1, 1142, .null) := by decide +kernel
theorem f69_24 : am_tab 69 24 = some (.return_, 1, 0, 0, 0, .null) := by decide +kernel
theorem f70_0 : am_tab 70 0 = some (.aload_n 1, 1, 0, 0, 0, .null) := by decide +kernel
theorem f70_1 : am_tab 70 1 = some (.iload_n 2, 1, 0, 0, 0, .null) := by decide +kernel
theorem f70_2 : am_tab 70 2 = some (.invokevirtual 22, 3, 50, 2, 3096, .int 0) := by decide +kernel
theorem f70_5 : am_tab 70 5 = some (.istore 4, 2, 0, 0, 0, .null) := by decide +kernel
theorem f70_7 : am_tab 70 7 = some (.aload_n 1, 1, 0, 0, 0, .null) := by decide +kernel
theorem f70_8 : am_tab 70 8 = some (.iload_n 2, 1, 0, 0, 0, .null) := by decide +kernel
theorem f70_9 : am_tab 70 9 = some (.iconst 1, 1, 0, 0, 0, .null) := by decide +kernel
theorem f70_10 : am_tab 70 10 = some (.iadd, 1, 0, 0, 0, .null) := by decide +kernel
theorem f70_11 : am_tab 70 11 = some (.invokevirtual 22, 3, 50, 2, 3096, .int 0) := by decide +kernel
theorem f70_14 : am_tab 70 14 = some (.istore 5, 2, 0, 0, 0, .null) := by decide +kernel
theorem f70_16 : am_tab 70 16 = some (.aload_n 0, 1, 0, 0, 0, .null) := by decide +kernel
theorem f70_17 : am_tab 70 17 = some (.iconst 0, 1, 0, 0, 0, .null) := by decide +kernel
theorem f70_18 : am_tab 70 18 = some (.putfield 28, 3, 4, 2, 1143, .null) := by decide +kernel
theorem f70_21 : am_tab 70 21 = some (.aload_n 0, 1, 0, 0, 0, .null) := by decide +kernel
theorem f70_22 : am_tab 70 22 = some (.iconst 0, 1, 0, 0, 0, .null) := by decide +kernel
theorem f70_23 : am_tab 70 23 = some (.putfield 32, 3, 4, 3, 1145, .null) := by decide +kernel
theorem f70_26 : am_tab 70 26 = some (.aload_n 0, 1, 0, 0, 0, .null) := by decide +kernel
theorem f70_27 : am_tab 70 27 = some (.getfield 12, 3, 4, 0, 1141, .null) := by decide +kernel
theorem f70_30 : am_tab 70 30 = some (.aload_n 1, 1, 0, 0, 0, .null) := by decide +kernel
theorem f70_31 : am_tab 70 31 = some (.iload_n 3, 1, 0, 0, 0, .null) := by decide +kernel
theorem f70_32 : am_tab 70 32 = some (.invokevirtual 35, 3, 24, 3, 3097, .int 0) := by decide +kernel
theorem f70_35 : am_tab 70 35 = some (.iload 4, 2, 0, 0, 0, .null) := by decide +kernel
theorem f70_37 : am_tab 70 37 = some (.istore 6, 2, 0, 0, 0, .null) := by decide +kernel
theorem f70_39 : am_tab 70 39 = some (.iload 6, 2, 0, 0, 0, .null) := by decide +kernel
theorem f70_41 : am_tab 70 41 = some (.iload 5, 2, 0, 0, 0, .null) := by decide +kernel
theorem f70_43 : am_tab 70 43 = some (.if_icmp .ge 54, 3, 97, 0, 0, .null) := by decide +kernel
theorem f70_46 : am_tab 70 46 = some (.aload_n 0, 1, 0, 0, 0, .null) := by decide +kernel
theorem f70_47 : am_tab 70 47 = some (.iload 6, 2, 0, 0, 0, .null) := by decide +kernel
theorem f70_49 : am_tab 70 49 = some (.iload 4, 2, 0, 0, 0, .null) := by decide +kernel
theorem f70_51 : am_tab 70 51 = some (.iload 5, 2, 0, 0, 0, .null) := by decide +kernel
theorem f70_53 : am_tab 70 53 = some (.invokevirtual 39, 3, 71, 4, 3098, .int 0) := by decide +kernel
theorem f70_56 : am_tab 70 56 = some (.istore 7, 2, 0, 0, 0, .null) := by decide +kernel
theorem f70_58 : am_tab 70 58 = some (.aload_n 0, 1, 0, 0, 0, .null) := by decide +kernel
theorem f70_59 : am_tab 70 59 = some (.aload_n 0, 1, 0, 0, 0, .null) := by decide +kernel
theorem f70_60 : am_tab 70 60 = some (.getfield 28, 3, 4, 2, 1143, .null) := by decide +kernel
theorem f70_63 : am_tab 70 63 = some (.iload 7, 2, 0, 0, 0, .null) := by decide +kernel
theorem f70_65 : am_tab 70 65 = some (.invokestatic 43, 3, 0, 0, 3103, .int 10) := by decide +kernel
theorem f70_68 : am_tab 70 68 = some (.putfield 28, 3, 4, 2, 1143, .null) := by decide +kernel
theorem f70_71 : am_tab 70 71 = some (.aload_n 0, 1, 0, 0, 0, .null) := by decide +kernel
theorem f70_72 : am_tab 70 72 = some (.dup, 1, 0, 0, 0, .null) := by decide +kernel
theorem f70_73 : am_tab 70 73 = some (.getfield 32, 3, 4, 3, 1145, .null) := by decide +kernel
theorem f70_76 : am_tab 70 76 = some (.iload 7, 2, 0, 0, 0, .null) := by decide +kernel
theorem f70_78 : am_tab 70 78 = some (.aload_n 1, 1, 0, 0, 0, .null) := by decide +kernel
theorem f70_79 : am_tab 70 79 = some (.iload 6, 2, 0, 0, 0, .null) := by decide +kernel
theorem f70_81 : am_tab 70 81 = some (.invokevirtual 49, 3, 44, 2, 3104, .int 0) := by decide +kernel
theorem f70_84 : am_tab 70 84 = some (.iconst 1, 1, 0, 0, 0, .null) := by decide +kernel
theorem f70_85 : am_tab 70 85 = some (.iadd, 1, 0, 0, 0, .null) := by decide +kernel
theorem f70_86 : am_tab 70 86 = some (.imul, 1, 0, 0, 0, .null) := by decide +kernel
theorem f70_87 : am_tab 70 87 = some (.iadd, 1, 0, 0, 0, .null) := by decide +kernel
theorem f70_88 : am_tab 70 88 = some (.putfield 32, 3, 4, 3, 1145, .null) := by decide +kernel
theorem f70_91 : am_tab 70 91 = some (.iinc 6 1, 3, 0, 0, 0, .null) := by decide +kernel
theorem f70_94 : am_tab 70 94 = some (.goto (-55), 3, 39, 0, 0, .null) := by decide +kernel
theorem f70_97 : am_tab 70 97 = some (.return_, 1, 0, 0, 0, .null) := by decide +kernel
theorem f71_0 : am_tab 71 0 = some (.iload_n 2, 1, 0, 0, 0, .null) := by decide +kernel
theorem f71_1 : am_tab 71 1 = some (.istore 4, 2, 0, 0, 0, .null) := by decide +kernel
theorem f71_3 : am_tab 71 3 = some (.iload_n 3, 1, 0, 0, 0, .null) := by decide +kernel
theorem f71_4 : am_tab 71 4 = some (.istore 5, 2, 0, 0, 0, .null) := by decide +kernel
theorem f71_6 : am_tab 71 6 = some (.iconst 0, 1, 0, 0, 0, .null) := by decide +kernel
theorem f71_7 : am_tab 71 7 = some (.istore 6, 2, 0, 0, 0, .null) := by decide +kernel
theorem f71_9 : am_tab 71 9 = some (.iload 6, 2, 0, 0, 0, .null) := by decide +kernel
theorem f71_11 : am_tab 71 11 = some (.bipush 48, 2, 0, 0, 0, .null) := by decide +kernel
theorem f71_13 : am_tab 71 13 = some (.if_icmp .ge 51, 3, 64, 0, 0, .null) := by decide +kernel
theorem f71_16 : am_tab 71 16 = some (.iload 5, 2, 0, 0, 0, .null) := by decide +kernel
theorem f71_18 : am_tab 71 18 = some (.iload 4, 2, 0, 0, 0, .null) := by decide +kernel
theorem f71_20 : am_tab 71 20 = some (.isub, 1, 0, 0, 0, .null) := by decide +kernel
theorem f71_21 : am_tab 71 21 = some (.iconst 2, 1, 0, 0, 0, .null) := by decide +kernel
theorem f71_22 : am_tab 71 22 = some (.if_icmp .ge 6, 3, 28, 0, 0, .null) := by decide +kernel
theorem f71_25 : am_tab 71 25 = some (.iload 6, 2, 0, 0, 0, .null) := by decide +kernel
theorem f71_27 : am_tab 71 27 = some (.ireturn, 1, 0, 0, 0, .null) := by decide +kernel
theorem f71_28 : am_tab 71 28 = some (.aload_n 0, 1, 0, 0, 0, .null) := by decide +kernel
theorem f71_29 : am_tab 71 29 = some (.getfield 12, 3, 4, 0, 1141, .null) := by decide +kernel
theorem f71_32 : am_tab 71 32 = some (.iload 4, 2, 0, 0, 0, .null) := by decide +kernel
theorem f71_34 : am_tab 71 34 = some (.iload 5, 2, 0, 0, 0, .null) := by decide +kernel
theorem f71_36 : am_tab 71 36 = some (.invokevirtual 52, 3, 26, 3, 3102, .int 0) := by decide +kernel
theorem f71_39 : am_tab 71 39 = some (.istore 7, 2, 0, 0, 0, .null) := by decide +kernel
theorem f71_41 : am_tab 71 41 = some (.iload_n 1, 1, 0, 0, 0, .null) := by decide +kernel
theorem f71_42 : am_tab 71 42 = some (.iload 7, 2, 0, 0, 0, .null) := by decide +kernel
theorem f71_44 : am_tab 71 44 = some (.if_icmp .ge 10, 3, 54, 0, 0, .null) := by decide +kernel
theorem f71_47 : am_tab 71 47 = some (.iload 7, 2, 0, 0, 0, .null) := by decide +kernel
theorem f71_49 : am_tab 71 49 = some (.istore 5, 2, 0, 0, 0, .null) := by decide +kernel
theorem f71_51 : am_tab 71 51 = some (.goto 7, 3, 58, 0, 0, .null) := by decide +kernel
theorem f71_54 : am_tab 71 54 = some (.iload 7, 2, 0, 0, 0, .null) := by decide +kernel
theorem f71_56 : am_tab 71 56 = some (.istore 4, 2, 0, 0, 0, .null) := by decide +kernel
theorem f71_58 : am_tab 71 58 = some (.iinc 6 1, 3, 0, 0, 0, .null) := by decide +kernel
theorem f71_61 : am_tab 71 61 = some (.goto (-52), 3, 9, 0, 0, .null) := by decide +kernel
theorem f71_64 : am_tab 71 64 = some (.bipush 48, 2, 0, 0, 0, .null) := by decide +kernel
theorem f71_66 : am_tab 71 66 = some (.ireturn, 1, 0, 0, 0, .null) := by decide +kernel
theorem f72_0 : am_tab 72 0 = some (.aload_n 1, 1, 0, 0, 0, .null) := by decide +kernel
theorem f72_1 : am_tab 72 1 = some (.iload_n 2, 1, 0, 0, 0, .null) := by decide +kernel
theorem f72_2 : am_tab 72 2 = some (.invokevirtual 22, 3, 50, 2, 3096, .int 0) := by decide +kernel
theorem f72_5 : am_tab 72 5 = some (.istore_n 3, 1, 0, 0, 0, .null) := by decide +kernel
theorem f72_6 : am_tab 72 6 = some (.aload_n 1, 1, 0, 0, 0, .null) := by decide +kernel
theorem f72_7 : am_tab 72 7 = some (.iload_n 2, 1, 0, 0, 0, .null) := by decide +kernel
theorem f72_8 : am_tab 72 8 = some (.iconst 1, 1, 0, 0, 0, .null) := by decide +kernel
theorem f72_9 : am_tab 72 9 = some (.iadd, 1, 0, 0, 0, .null) := by decide +kernel
theorem f72_10 : am_tab 72 10 = some (.invokevirtual 22, 3, 50, 2, 3096, .int 0) := by decide +kernel
theorem f72_13 : am_tab 72 13 = some (.istore 4, 2, 0, 0, 0, .null) := by decide +kernel
theorem f72_15 : am_tab 72 15 = some (.aload_n 0, 1, 0, 0, 0, .null) := by decide +kernel
theorem f72_16 : am_tab 72 16 = some (.getfield 12, 3, 4, 0, 1141, .null) := by decide +kernel
theorem f72_19 : am_tab 72 19 = some (.aload_n 1, 1, 0, 0, 0, .null) := by decide +kernel
theorem f72_20 : am_tab 72 20 = some (.iconst 2, 1, 0, 0, 0, .null) := by decide +kernel
theorem f72_21 : am_tab 72 21 = some (.invokevirtual 35, 3, 24, 3, 3097, .int 0) := by decide +kernel
theorem f72_24 : am_tab 72 24 = some (.iconst 2, 1, 0, 0, 0, .null) := by decide +kernel
theorem f72_25 : am_tab 72 25 = some (.istore 5, 2, 0, 0, 0, .null) := by decide +kernel
theorem f72_27 : am_tab 72 27 = some (.iload 5, 2, 0, 0, 0, .null) := by decide +kernel
theorem f72_29 : am_tab 72 29 = some (.iload 4, 2, 0, 0, 0, .null) := by decide +kernel
theorem f72_31 : am_tab 72 31 = some (.iload_n 3, 1, 0, 0, 0, .null) := by decide +kernel
theorem f72_32 : am_tab 72 32 = some (.isub, 1, 0, 0, 0, .null) := by decide +kernel
theorem f72_33 : am_tab 72 33 = some (.if_icmp .gt 50, 3, 83, 0, 0, .null) := by decide +kernel
theorem f72_36 : am_tab 72 36 = some (.iload_n 3, 1, 0, 0, 0, .null) := by decide +kernel
theorem f72_37 : am_tab 72 37 = some (.istore 6, 2, 0, 0, 0, .null) := by decide +kernel
theorem f72_39 : am_tab 72 39 = some (.iload 6, 2, 0, 0, 0, .null) := by decide +kernel
theorem f72_41 : am_tab 72 41 = some (.iload 5, 2, 0, 0, 0, .null) := by decide +kernel
theorem f72_43 : am_tab 72 43 = some (.iadd, 1, 0, 0, 0, .null) := by decide +kernel
theorem f72_44 : am_tab 72 44 = some (.iload 4, 2, 0, 0, 0, .null) := by decide +kernel
theorem f72_46 : am_tab 72 46 = some (.if_icmp .gt 31, 3, 77, 0, 0, .null) := by decide +kernel
theorem f72_49 : am_tab 72 49 = some (.aload_n 0, 1, 0, 0, 0, .null) := by decide +kernel
theorem f72_50 : am_tab 72 50 = some (.iload 6, 2, 0, 0, 0, .null) := by decide +kernel
theorem f72_52 : am_tab 72 52 = some (.iload 6, 2, 0, 0, 0, .null) := by decide +kernel
theorem f72_54 : am_tab 72 54 = some (.iload 5, 2, 0, 0, 0, .null) := by decide +kernel
theorem f72_56 : am_tab 72 56 = some (.iadd, 1, 0, 0, 0, .null) := by decide +kernel
theorem f72_57 : am_tab 72 57 = some (.aload_n 0, 1, 0, 0, 0, .null) := by decide +kernel
theorem f72_58 : am_tab 72 58 = some (.iload 6, 2, 0, 0, 0, .null) := by decide +kernel
theorem f72_60 : am_tab 72 60 = some (.iload 6, 2, 0, 0, 0, .null) := by decide +kernel
theorem f72_62 : am_tab 72 62 = some (.iload 5, 2, 0, 0, 0, .null) := by decide +kernel
theorem f72_64 : am_tab 72 64 = some (.iadd, 1, 0, 0, 0, .null) := by decide +kernel
theorem f72_65 : am_tab 72 65 = some (.invokevirtual 55, 3, 73, 3, 3113, .int 0) := by decide +kernel
theorem f72_68 : am_tab 72 68 = some (.invokevirtual 58, 3, 76, 4, 3126, .int 0) := by decide +kernel
theorem f72_71 : am_tab 72 71 = some (.iinc 6 1, 3, 0, 0, 0, .null) := by decide +kernel
theorem f72_74 : am_tab 72 74 = some (.goto (-35), 3, 39, 0, 0, .null) := by decide +kernel
theorem f72_77 : am_tab 72 77 = some (.iinc 5 1, 3, 0, 0, 0, .null) := by decide +kernel
theorem f72_80 : am_tab 72 80 = some (.goto (-53), 3, 27, 0, 0, .null) := by decide +kernel
theorem f72_83 : am_tab 72 83 = some (.aload_n 0, 1, 0, 0, 0, .null) := by decide +kernel
theorem f72_84 : am_tab 72 84 = some (.iload_n 3, 1, 0, 0, 0, .null) := by decide +kernel
theorem f72_85 : am_tab 72 85 = some (.iload 4, 2, 0, 0, 0, .null) := by decide +kernel
theorem f72_87 : am_tab 72 87 = some (.invokevirtual 62, 3, 75, 3, 3117, .int 0) := by decide +kernel
theorem f72_90 : am_tab 72 90 = some (.ireturn, 1, 0, 0, 0, .null) := by decide +kernel
theorem f73_0 : am_tab 73 0 = some (.aload_n 0, 1, 0, 0, 0, .null) := by decide +kernel
theorem f73_1 : am_tab 73 1 = some (.iload_n 1, 1, 0, 0, 0, .null) := by decide +kernel
theorem f73_2 : am_tab 73 2 = some (.iconst 1, 1, 0, 0, 0, .null) := by decide +kernel
theorem f73_3 : am_tab 73 3 = some (.iadd, 1, 0, 0, 0, .null) := by decide +kernel
theorem f73_4 : am_tab 73 4 = some (.iload_n 2, 1, 0, 0, 0, .null) := by decide +kernel
theorem f73_5 : am_tab 73 5 = some (.invokevirtual 62, 3, 75, 3, 3117, .int 0) := by decide +kernel
theorem f73_8 : am_tab 73 8 = some (.istore_n 3, 1, 0, 0, 0, .null) := by decide +kernel
theorem f73_9 : am_tab 73 9 = some (.iload_n 1, 1, 0, 0, 0, .null) := by decide +kernel
theorem f73_10 : am_tab 73 10 = some (.iconst 2, 1, 0, 0, 0, .null) := by decide +kernel
theorem f73_11 : am_tab 73 11 = some (.iadd, 1, 0, 0, 0, .null) := by decide +kernel
theorem f73_12 : am_tab 73 12 = some (.istore 4, 2, 0, 0, 0, .null) := by decide +kernel
theorem f73_14 : am_tab 73 14 = some (.iload 4, 2, 0, 0, 0, .null) := by decide +kernel
theorem f73_16 : am_tab 73 16 = some (.iload_n 2, 1, 0, 0, 0, .null) := by decide +kernel
theorem f73_17 : am_tab 73 17 = some (.if_icmp .ge 29, 3, 46, 0, 0, .null) := by decide +kernel
theorem f73_20 : am_tab 73 20 = some (.iload_n 3, 1, 0, 0, 0, .null) := by decide +kernel
theorem f73_21 : am_tab 73 21 = some (.aload_n 0, 1, 0, 0, 0, .null) := by decide +kernel
theorem f73_22 : am_tab 73 22 = some (.iload_n 1, 1, 0, 0, 0, .null) := by decide +kernel
theorem f73_23 : am_tab 73 23 = some (.iload 4, 2, 0, 0, 0, .null) := by decide +kernel
theorem f73_25 : am_tab 73 25 = some (.invokevirtual 62, 3, 75, 3, 3117, .int 0) := by decide +kernel
theorem f73_28 : am_tab 73 28 = some (.aload_n 0, 1, 0, 0, 0, .null) := by decide +kernel
theorem f73_29 : am_tab 73 29 = some (.iload 4, 2, 0, 0, 0, .null) := by decide +kernel
theorem f73_31 : am_tab 73 31 = some (.iload_n 2, 1, 0, 0, 0, .null) := by decide +kernel
theorem f73_32 : am_tab 73 32 = some (.invokevirtual 62, 3, 75, 3, 3117, .int 0) := by decide +kernel
theorem f73_35 : am_tab 73 35 = some (.iadd, 1, 0, 0, 0, .null) := by decide +kernel
theorem f73_36 : am_tab 73 36 = some (.invokestatic 65, 3, 0, 0, 3124, .int 11) := by decide +kernel
theorem f73_39 : am_tab 73 39 = some (.istore_n 3, 1, 0, 0, 0, .null) := by decide +kernel
theorem f73_40 : am_tab 73 40 = some (.iinc 4 1, 3, 0, 0, 0, .null) := by decide +kernel
theorem f73_43 : am_tab 73 43 = some (.goto (-29), 3, 14, 0, 0, .null) := by decide +kernel
theorem f73_46 : am_tab 73 46 = some (.iload_n 3, 1, 0, 0, 0, .null) := by decide +kernel
theorem f73_47 : am_tab 73 47 = some (.aload_n 0, 1, 0, 0, 0, .null) := by decide +kernel
theorem f73_48 : am_tab 73 48 = some (.getfield 12, 3, 4, 0, 1141, .null) := by decide +kernel
theorem f73_51 : am_tab 73 51 = some (.iload_n 1, 1, 0, 0, 0, .null) := by decide +kernel
theorem f73_52 : am_tab 73 52 = some (.iload_n 2, 1, 0, 0, 0, .null) := by decide +kernel
theorem f73_53 : am_tab 73 53 = some (.invokevirtual 68, 3, 25, 3, 3125, .int 0) := by decide +kernel
theorem f73_56 : am_tab 73 56 = some (.iadd, 1, 0, 0, 0, .null) := by decide +kernel
theorem f73_57 : am_tab 73 57 = some (.ireturn, 1, 0, 0, 0, .null) := by decide +kernel
theorem f74_0 : am_tab 74 0 = some (.iload_n 0, 1, 0, 0, 0, .null) := by decide +kernel
theorem f74_1 : am_tab 74 1 = some (.ifCond .lt 18, 3, 19, 0, 0, .null) := by decide +kernel
theorem f74_4 : am_tab 74 4 = some (.iload_n 0, 1, 0, 0, 0, .null) := by decide +kernel
theorem f74_5 : am_tab 74 5 = some (.iload_n 1, 1, 0, 0, 0, .null) := by decide +kernel
theorem f74_6 : am_tab 74 6 = some (.if_icmp .ge 13, 3, 19, 0, 0, .null) := by decide +kernel
theorem f74_9 : am_tab 74 9 = some (.iload_n 1, 1, 0, 0, 0, .null) := by decide +kernel
theorem f74_10 : am_tab 74 10 = some (.bipush 48, 2, 0, 0, 0, .null) := by decide +kernel
theorem f74_12 : am_tab 74 12 = some (.if_icmp .gt 7, 3, 19, 0, 0, .null) := by decide +kernel
theorem f74_15 : am_tab 74 15 = some (.iconst 1, 1, 0, 0, 0, .null) := by decide +kernel
theorem f74_16 : am_tab 74 16 = some (.goto 4, 3, 20, 0, 0, .null) := by decide +kernel
theorem f74_19 : am_tab 74 19 = some (.iconst 0, 1, 0, 0, 0, .null) := by decide +kernel
theorem f74_20 : am_tab 74 20 = some (.ireturn, 1, 0, 0, 0, .null) := by decide +kernel
theorem f75_0 : am_tab 75 0 = some (.iload_n 1, 1, 0, 0, 0, .null) := by decide +kernel
theorem f75_1 : am_tab 75 1 = some (.iload_n 2, 1, 0, 0, 0, .null) := by decide +kernel
theorem f75_2 : am_tab 75 2 = some (.invokestatic 71, 3, 74, 2, 3121, .int 2) := by decide +kernel
theorem f75_5 : am_tab 75 5 = some (.ifCond .eq 17, 3, 22, 0, 0, .null) := by decide +kernel
theorem f75_8 : am_tab 75 8 = some (.aload_n 0, 1, 0, 0, 0, .null) := by decide +kernel
theorem f75_9 : am_tab 75 9 = some (.getfield 18, 3, 4, 1, 1142, .null) := by decide +kernel
theorem f75_12 : am_tab 75 12 = some (.bipush 49, 2, 0, 0, 0, .null) := by decide +kernel
theorem f75_14 : am_tab 75 14 = some (.iload_n 1, 1, 0, 0, 0, .null) := by decide +kernel
theorem f75_15 : am_tab 75 15 = some (.imul, 1, 0, 0, 0, .null) := by decide +kernel
theorem f75_16 : am_tab 75 16 = some (.iload_n 2, 1, 0, 0, 0, .null) := by decide +kernel
theorem f75_17 : am_tab 75 17 = some (.iadd, 1, 0, 0, 0, .null) := by decide +kernel
theorem f75_18 : am_tab 75 18 = some (.iaload, 1, 0, 0, 0, .null) := by decide +kernel
theorem f75_19 : am_tab 75 19 = some (.goto 4, 3, 23, 0, 0, .null) := by decide +kernel
theorem f75_22 : am_tab 75 22 = some (.iconst 0, 1, 0, 0, 0, .null) := by decide +kernel
theorem f75_23 : am_tab 75 23 = some (.ireturn, 1, 0, 0, 0, .null) := by decide +kernel
theorem f76_0 : am_tab 76 0 = some (.iload_n 1, 1, 0, 0, 0, .null) := by decide +kernel
theorem f76_1 : am_tab 76 1 = some (.iload_n 2, 1, 0, 0, 0, .null) := by decide +kernel
theorem f76_2 : am_tab 76 2 = some (.invokestatic 71, 3, 74, 2, 3121, .int 2) := by decide +kernel
theorem f76_5 : am_tab 76 5 = some (.ifCond .eq 15, 3, 20, 0, 0, .null) := by decide +kernel
theorem f76_8 : am_tab 76 8 = some (.aload_n 0, 1, 0, 0, 0, .null) := by decide +kernel
theorem f76_9 : am_tab 76 9 = some (.getfield 18, 3, 4, 1, 1142, .null) := by decide +kernel
theorem f76_12 : am_tab 76 12 = some (.bipush 49, 2, 0, 0, 0, .null) := by decide +kernel
theorem f76_14 : am_tab 76 14 = some (.iload_n 1, 1, 0, 0, 0, .null) := by decide +kernel
theorem f76_15 : am_tab 76 15 = some (.imul, 1, 0, 0, 0, .null) := by decide +kernel
theorem f76_16 : am_tab 76 16 = some (.iload_n 2, 1, 0, 0, 0, .null) := by decide +kernel
theorem f76_17 : am_tab 76 17 = some (.iadd, 1, 0, 0, 0, .null) := by decide +kernel
theorem f76_18 : am_tab 76 18 = some (.iload_n 3, 1, 0, 0, 0, .null) := by decide +kernel
theorem f76_19 : am_tab 76 19 = some (.iastore, 1, 0, 0, 0, .null) := by decide +kernel
theorem f76_20 : am_tab 76 20 = some (.return_, 1, 0, 0, 0, .null) := by decide +kernel
theorem f80_0 : am_tab 80 0 = some (.aload_n 0, 1, 0, 0, 0, .null) := by decide +kernel
theorem f80_1 : am_tab 80 1 = some (.invokespecial 3, 3, 0, 0, 1092, .int 6) := by decide +kernel
theorem f80_4 : am_tab 80 4 = some (.aload_n 0, 1, 0, 0, 0, .null) := by decide +kernel
theorem f80_5 : am_tab 80 5 = some (.new 9, 3, 0, 1, 1093, .null) := by decide +kernel
theorem f80_8 : am_tab 80 8 = some (.dup, 1, 0, 0, 0, .null) := by decide +kernel
theorem f80_9 : am_tab 80 9 = some (.invokespecial 11, 3, 23, 1, 1095, .int 5) := by decide +kernel
theorem f80_12 : am_tab 80 12 = some (.putfield 12, 3, 5, 0, 1103, .null) := by decide +kernel
theorem f80_15 : am_tab 80 15 = some (.return_, 1, 0, 0, 0, .null) := by decide +kernel
theorem f81_0 : am_tab 81 0 = some (.aload_n 0, 1, 0, 0, 0, .null) := by decide +kernel
theorem f81_1 : am_tab 81 1 = some (.aload_n 1, 1, 0, 0, 0, .null) := by decide +kernel
theorem f81_2 : am_tab 81 2 = some (.putfield 18, 3, 5, 1, 1104, .null) := by decide +kernel
theorem f81_5 : am_tab 81 5 = some (.aload_n 0, 1, 0, 0, 0, .null) := by decide +kernel
theorem f81_6 : am_tab 81 6 = some (.iconst 0, 1, 0, 0, 0, .null) := by decide +kernel
theorem f81_7 : am_tab 81 7 = some (.putfield 22, 3, 5, 2, 1105, .null) := by decide +kernel
theorem f81_10 : am_tab 81 10 = some (.aload_n 0, 1, 0, 0, 0, .null) := by decide +kernel
theorem f81_11 : am_tab 81 11 = some (.lconst 0, 1, 0, 0, 0, .null) := by decide +kernel
theorem f81_12 : am_tab 81 12 = some (.putfield 26, 3, 5, 3, 1108, .null) := by decide +kernel
theorem f81_15 : am_tab 81 15 = some (.aload_n 0, 1, 0, 0, 0, .null) := by decide +kernel
theorem f81_16 : am_tab 81 16 = some (.getfield 12, 3, 5, 0, 1103, .null) := by decide +kernel
theorem f81_19 : am_tab 81 19 = some (.aload_n 1, 1, 0, 0, 0, .null) := by decide +kernel
theorem f81_20 : am_tab 81 20 = some (.iload_n 2, 1, 0, 0, 0, .null) := by decide +kernel
theorem f81_21 : am_tab 81 21 = some (.invokevirtual 30, 3, 24, 3, 3049, .int 0) := by decide +kernel
theorem f81_24 : am_tab 81 24 = some (.aload_n 1, 1, 0, 0, 0, .null) := by decide +kernel
theorem f81_25 : am_tab 81 25 = some (.invokevirtual 34, 3, 48, 1, 3059, .int 0) := by decide +kernel
theorem f81_28 : am_tab 81 28 = some (.istore_n 3, 1, 0, 0, 0, .null) := by decide +kernel
theorem f81_29 : am_tab 81 29 = some (.iconst 0, 1, 0, 0, 0, .null) := by decide +kernel
theorem f81_30 : am_tab 81 30 = some (.istore 4, 2, 0, 0, 0, .null) := by decide +kernel
theorem f81_32 : am_tab 81 32 = some (.iload 4, 2, 0, 0, 0, .null) := by decide +kernel
theorem f81_34 : am_tab 81 34 = some (.iload_n 3, 1, 0, 0, 0, .null) := by decide +kernel
theorem f81_35 : am_tab 81 35 = some (.if_icmp .ge 91, 3, 126, 0, 0, .null) := by decide +kernel
theorem f81_38 : am_tab 81 38 = some (.aload_n 1, 1, 0, 0, 0, .null) := by decide +kernel
theorem f81_39 : am_tab 81 39 = some (.iload 4, 2, 0, 0, 0, .null) := by decide +kernel
theorem f81_41 : am_tab 81 41 = some (.invokevirtual 40, 3, 50, 2, 3060, .int 0) := by decide +kernel
theorem f81_44 : am_tab 81 44 = some (.istore 5, 2, 0, 0, 0, .null) := by decide +kernel
theorem f81_46 : am_tab 81 46 = some (.aload_n 1, 1, 0, 0, 0, .null) := by decide +kernel
theorem f81_47 : am_tab 81 47 = some (.iload 4, 2, 0, 0, 0, .null) := by decide +kernel
theorem f81_49 : am_tab 81 49 = some (.iconst 1, 1, 0, 0, 0, .null) := by decide +kernel
theorem f81_50 : am_tab 81 50 = some (.iadd, 1, 0, 0, 0, .null) := by decide +kernel
theorem f81_51 : am_tab 81 51 = some (.invokevirtual 40, 3, 50, 2, 3060, .int 0) := by decide +kernel
theorem f81_54 : am_tab 81 54 = some (.istore 6, 2, 0, 0, 0, .null) := by decide +kernel
theorem f81_56 : am_tab 81 56 = some (.aload_n 1, 1, 0, 0, 0, .null) := by decide +kernel
theorem f81_57 : am_tab 81 57 = some (.iload 4, 2, 0, 0, 0, .null) := by decide +kernel
theorem f81_59 : am_tab 81 59 = some (.invokevirtual 44, 3, 47, 2, 3061, .int 0) := by decide +kernel
theorem f81_62 : am_tab 81 62 = some (.istore 7, 2, 0, 0, 0, .null) := by decide +kernel
theorem f81_64 : am_tab 81 64 = some (.aload_n 1, 1, 0, 0, 0, .null) := by decide +kernel
theorem f81_65 : am_tab 81 65 = some (.getfield 47, 3, 3, 8, 1053, .int 1) := by decide +kernel
theorem f81_68 : am_tab 81 68 = some (.ifCond .ne 23, 3, 91, 0, 0, .null) := by decide +kernel
theorem f81_71 : am_tab 81 71 = some (.aload_n 0, 1, 0, 0, 0, .null) := by decide +kernel
theorem f81_72 : am_tab 81 72 = some (.dup, 1, 0, 0, 0, .null) := by decide +kernel
theorem f81_73 : am_tab 81 73 = some (.getfield 22, 3, 5, 2, 1105, .null) := by decide +kernel
theorem f81_76 : am_tab 81 76 = some (.iconst 1, 1, 0, 0, 0, .null) := by decide +kernel
theorem f81_77 : am_tab 81 77 = some (.iadd, 1, 0, 0, 0, .null) := by decide +kernel
theorem f81_78 : am_tab 81 78 = some (.putfield 22, 3, 5, 2, 1105, .null) := by decide +kernel
theorem f81_81 : am_tab 81 81 = some (.aload_n 1, 1, 0, 0, 0, .null) := by decide +kernel
theorem f81_82 : am_tab 81 82 = some (.iload 5, 2, 0, 0, 0, .null) := by decide +kernel
theorem f81_84 : am_tab 81 84 = some (.iload 6, 2, 0, 0, 0, .null) := by decide +kernel
theorem f81_86 : am_tab 81 86 = some (.invokevirtual 50, 3, 53, 3, 3062, .int 0) := by decide +kernel
theorem f81_89 : am_tab 81 89 = some (.istore 7, 2, 0, 0, 0, .null) := by decide +kernel
theorem f81_91 : am_tab 81 91 = some (.aload_n 1, 1, 0, 0, 0, .null) := by decide +kernel
theorem f81_92 : am_tab 81 92 = some (.iload 5, 2, 0, 0, 0, .null) := by decide +kernel
theorem f81_94 : am_tab 81 94 = some (.iload 6, 2, 0, 0, 0, .null) := by decide +kernel
theorem f81_96 : am_tab 81 96 = some (.invokevirtual 54, 3, 52, 3, 3063, .int 0) := by decide +kernel
theorem f81_99 : am_tab 81 99 = some (.iload 7, 2, 0, 0, 0, .null) := by decide +kernel
theorem f81_101 : am_tab 81 101 = some (.isub, 1, 0, 0, 0, .null) := by decide +kernel
theorem f81_102 : am_tab 81 102 = some (.istore 8, 2, 0, 0, 0, .null) := by decide +kernel
theorem f81_104 : am_tab 81 104 = some (.iload 8, 2, 0, 0, 0, .null) := by decide +kernel
theorem f81_106 : am_tab 81 106 = some (.ifCond .le 14, 3, 120, 0, 0, .null) := by decide +kernel
theorem f81_109 : am_tab 81 109 = some (.aload_n 0, 1, 0, 0, 0, .null) := by decide +kernel
theorem f81_110 : am_tab 81 110 = some (.iload 5, 2, 0, 0, 0, .null) := by decide +kernel
theorem f81_112 : am_tab 81 112 = some (.iload 6, 2, 0, 0, 0, .null) := by decide +kernel
theorem f81_114 : am_tab 81 114 = some (.iload 8, 2, 0, 0, 0, .null) := by decide +kernel
theorem f81_116 : am_tab 81 116 = some (.iconst 0, 1, 0, 0, 0, .null) := by decide +kernel
theorem f81_117 : am_tab 81 117 = some (.invokestatic 57, 3, 82, 5, 3064, .int 2) := by decide +kernel
theorem f81_120 : am_tab 81 120 = some (.iinc 4 1, 3, 0, 0, 0, .null) := by decide +kernel
theorem f81_123 : am_tab 81 123 = some (.goto (-91), 3, 32, 0, 0, .null) := by decide +kernel
theorem f81_126 : am_tab 81 126 = some (.return_, 1, 0, 0, 0, .null) := by decide +kernel
theorem f82_0 : am_tab 82 0 = some (.aload_n 0, 1, 0, 0, 0, .null) := by decide +kernel
theorem f82_1 : am_tab 82 1 = some (.getfield 18, 3, 5, 1, 1104, .null) := by decide +kernel
theorem f82_4 : am_tab 82 4 = some (.astore 5, 2, 0, 0, 0, .null) := by decide +kernel
theorem f82_6 : am_tab 82 6 = some (.aload 5, 2, 0, 0, 0, .null) := by decide +kernel
theorem f82_8 : am_tab 82 8 = some (.ifnull 15, 3, 23, 0, 0, .null) := by decide +kernel
theorem f82_11 : am_tab 82 11 = some (.iload 4, 2, 0, 0, 0, .null) := by decide +kernel
theorem f82_13 : am_tab 82 13 = some (.bipush 48, 2, 0, 0, 0, .null) := by decide +kernel
theorem f82_15 : am_tab 82 15 = some (.if_icmp .ge 8, 3, 23, 0, 0, .null) := by decide +kernel
theorem f82_18 : am_tab 82 18 = some (.iload_n 1, 1, 0, 0, 0, .null) := by decide +kernel
theorem f82_19 : am_tab 82 19 = some (.iload_n 2, 1, 0, 0, 0, .null) := by decide +kernel
theorem f82_20 : am_tab 82 20 = some (.if_icmp .lt 4, 3, 24, 0, 0, .null) := by decide +kernel
theorem f82_23 : am_tab 82 23 = some (.return_, 1, 0, 0, 0, .null) := by decide +kernel
theorem f82_24 : am_tab 82 24 = some (.iload_n 3, 1, 0, 0, 0, .null) := by decide +kernel
theorem f82_25 : am_tab 82 25 = some (.aload 5, 2, 0, 0, 0, .null) := by decide +kernel
theorem f82_27 : am_tab 82 27 = some (.iload_n 1, 1, 0, 0, 0, .null) := by decide +kernel
theorem f82_28 : am_tab 82 28 = some (.iload_n 2, 1, 0, 0, 0, .null) := by decide +kernel
theorem f82_29 : am_tab 82 29 = some (.invokevirtual 54, 3, 52, 3, 3063, .int 0) := by decide +kernel
theorem f82_32 : am_tab 82 32 = some (.if_icmp .ne 18, 3, 50, 0, 0, .null) := by decide +kernel
theorem f82_35 : am_tab 82 35 = some (.aload_n 0, 1, 0, 0, 0, .null) := by decide +kernel
theorem f82_36 : am_tab 82 36 = some (.dup, 1, 0, 0, 0, .null) := by decide +kernel
theorem f82_37 : am_tab 82 37 = some (.getfield 26, 3, 5, 3, 1108, .null) := by decide +kernel
theorem f82_40 : am_tab 82 40 = some (.iload_n 1, 1, 0, 0, 0, .null) := by decide +kernel
theorem f82_41 : am_tab 82 41 = some (.iload_n 2, 1, 0, 0, 0, .null) := by decide +kernel
theorem f82_42 : am_tab 82 42 = some (.invokestatic 61, 3, 83, 2, 3067, .int 2) := by decide +kernel
theorem f82_45 : am_tab 82 45 = some (.lor, 1, 0, 0, 0, .null) := by decide +kernel
theorem f82_46 : am_tab 82 46 = some (.putfield 26, 3, 5, 3, 1108, .null) := by decide +kernel
theorem f82_49 : am_tab 82 49 = some (.return_, 1, 0, 0, 0, .null) := by decide +kernel
theorem f82_50 : am_tab 82 50 = some (.aload_n 0, 1, 0, 0, 0, .null) := by decide +kernel
theorem f82_51 : am_tab 82 51 = some (.dup, 1, 0, 0, 0, .null) := by decide +kernel
theorem f82_52 : am_tab 82 52 = some (.getfield 22, 3, 5, 2, 1105, .null) := by decide +kernel
theorem f82_55 : am_tab 82 55 = some (.iconst 1, 1, 0, 0, 0, .null) := by decide +kernel
theorem f82_56 : am_tab 82 56 = some (.iadd, 1, 0, 0, 0, .null) := by decide +kernel
theorem f82_57 : am_tab 82 57 = some (.putfield 22, 3, 5, 2, 1105, .null) := by decide +kernel
theorem f82_60 : am_tab 82 60 = some (.iload_n 2, 1, 0, 0, 0, .null) := by decide +kernel
theorem f82_61 : am_tab 82 61 = some (.iload_n 1, 1, 0, 0, 0, .null) := by decide +kernel
theorem f82_62 : am_tab 82 62 = some (.isub, 1, 0, 0, 0, .null) := by decide +kernel
theorem f82_63 : am_tab 82 63 = some (.iconst 1, 1, 0, 0, 0, .null) := by decide +kernel
theorem f82_64 : am_tab 82 64 = some (.if_icmp .ne 22, 3, 86, 0, 0, .null) := by decide +kernel
theorem f82_67 : am_tab 82 67 = some (.aload_n 0, 1, 0, 0, 0, .null) := by decide +kernel
theorem f82_68 : am_tab 82 68 = some (.dup, 1, 0, 0, 0, .null) := by decide +kernel
theorem f82_69 : am_tab 82 69 = some (.getfield 26, 3, 5, 3, 1108, .null) := by decide +kernel
theorem f82_72 : am_tab 82 72 = some (.aload 5, 2, 0, 0, 0, .null) := by decide +kernel
theorem f82_74 : am_tab 82 74 = some (.getfield 65, 3, 3, 5, 1046, .int 1) := by decide +kernel
theorem f82_77 : am_tab 82 77 = some (.lconst 1, 1, 0, 0, 0, .null) := by decide +kernel
theorem f82_78 : am_tab 82 78 = some (.iload_n 1, 1, 0, 0, 0, .null) := by decide +kernel
theorem f82_79 : am_tab 82 79 = some (.lshl, 1, 0, 0, 0, .null) := by decide +kernel
theorem f82_80 : am_tab 82 80 = some (.land, 1, 0, 0, 0, .null) := by decide +kernel
theorem f82_81 : am_tab 82 81 = some (.lor, 1, 0, 0, 0, .null) := by decide +kernel
theorem f82_82 : am_tab 82 82 = some (.putfield 26, 3, 5, 3, 1108, .null) := by decide +kernel
theorem f82_85 : am_tab 82 85 = some (.return_, 1, 0, 0, 0, .null) := by decide +kernel
theorem f82_86 : am_tab 82 86 = some (.aload_n 0, 1, 0, 0, 0, .null) := by decide +kernel
theorem f82_87 : am_tab 82 87 = some (.getfield 12, 3, 5, 0, 1103, .null) := by decide +kernel
theorem f82_90 : am_tab 82 90 = some (.iload_n 1, 1, 0, 0, 0, .null) := by decide +kernel
theorem f82_91 : am_tab 82 91 = some (.iload_n 2, 1, 0, 0, 0, .null) := by decide +kernel
theorem f82_92 : am_tab 82 92 = some (.invokevirtual 68, 3, 26, 3, 3070, .int 0) := by decide +kernel
theorem f82_95 : am_tab 82 95 = some (.istore 6, 2, 0, 0, 0, .null) := by decide +kernel
theorem f82_97 : am_tab 82 97 = some (.aload 5, 2, 0, 0, 0, .null) := by decide +kernel
theorem f82_99 : am_tab 82 99 = some (.iload_n 1, 1, 0, 0, 0, .null) := by decide +kernel
theorem f82_100 : am_tab 82 100 = some (.iload 6, 2, 0, 0, 0, .null) := by decide +kernel
theorem f82_102 : am_tab 82 102 = some (.invokevirtual 54, 3, 52, 3, 3063, .int 0) := by decide +kernel
theorem f82_105 : am_tab 82 105 = some (.aload 5, 2, 0, 0, 0, .null) := by decide +kernel
theorem f82_107 : am_tab 82 107 = some (.iload_n 1, 1, 0, 0, 0, .null) := by decide +kernel
theorem f82_108 : am_tab 82 108 = some (.iload 6, 2, 0, 0, 0, .null) := by decide +kernel
theorem f82_110 : am_tab 82 110 = some (.invokevirtual 50, 3, 53, 3, 3062, .int 0) := by decide +kernel
theorem f82_113 : am_tab 82 113 = some (.isub, 1, 0, 0, 0, .null) := by decide +kernel
theorem f82_114 : am_tab 82 114 = some (.istore 7, 2, 0, 0, 0, .null) := by decide +kernel
theorem f82_116 : am_tab 82 116 = some (.iload 7, 2, 0, 0, 0, .null) := by decide +kernel
theorem f82_118 : am_tab 82 118 = some (.ifCond .le 16, 3, 134, 0, 0, .null) := by decide +kernel
theorem f82_121 : am_tab 82 121 = some (.aload_n 0, 1, 0, 0, 0, .null) := by decide +kernel
theorem f82_122 : am_tab 82 122 = some (.iload_n 1, 1, 0, 0, 0, .null) := by decide +kernel
theorem f82_123 : am_tab 82 123 = some (.iload 6, 2, 0, 0, 0, .null) := by decide +kernel
theorem f82_125 : am_tab 82 125 = some (.iload 7, 2, 0, 0, 0, .null) := by decide +kernel
theorem f82_127 : am_tab 82 127 = some (.iload 4, 2, 0, 0, 0, .null) := by decide +kernel
theorem f82_129 : am_tab 82 129 = some (.iconst 1, 1, 0, 0, 0, .null) := by decide +kernel
theorem f82_130 : am_tab 82 130 = some (.iadd, 1, 0, 0, 0, .null) := by decide +kernel
theorem f82_131 : am_tab 82 131 = some (.invokestatic 57, 3, 82, 5, 3064, .int 2) := by decide +kernel
theorem f82_134 : am_tab 82 134 = some (.iload_n 3, 1, 0, 0, 0, .null) := by decide +kernel
theorem f82_135 : am_tab 82 135 = some (.iload 7, 2, 0, 0, 0, .null) := by decide +kernel
theorem f82_137 : am_tab 82 137 = some (.if_icmp .le 18, 3, 155, 0, 0, .null) := by decide +kernel
theorem f82_140 : am_tab 82 140 = some (.aload_n 0, 1, 0, 0, 0, .null) := by decide +kernel
theorem f82_141 : am_tab 82 141 = some (.iload 6, 2, 0, 0, 0, .null) := by decide +kernel
theorem f82_143 : am_tab 82 143 = some (.iload_n 2, 1, 0, 0, 0, .null) := by decide +kernel
theorem f82_144 : am_tab 82 144 = some (.iload_n 3, 1, 0, 0, 0, .null) := by decide +kernel
theorem f82_145 : am_tab 82 145 = some (.iload 7, 2, 0, 0, 0, .null) := by decide +kernel
theorem f82_147 : am_tab 82 147 = some (.isub, 1, 0, 0, 0, .null) := by decide +kernel
theorem f82_148 : am_tab 82 148 = some (.iload 4, 2, 0, 0, 0, .null) := by decide +kernel
theorem f82_150 : am_tab 82 150 = some (.iconst 1, 1, 0, 0, 0, .null) := by decide +kernel
theorem f82_151 : am_tab 82 151 = some (.iadd, 1, 0, 0, 0, .null) := by decide +kernel
theorem f82_152 : am_tab 82 152 = some (.invokestatic 57, 3, 82, 5, 3064, .int 2) := by decide +kernel
theorem f82_155 : am_tab 82 155 = some (.return_, 1, 0, 0, 0, .null) := by decide +kernel
theorem f83_0 : am_tab 83 0 = some (.lconst 1, 1, 0, 0, 0, .null) := by decide +kernel
theorem f83_1 : am_tab 83 1 = some (.iload_n 1, 1, 0, 0, 0, .null) := by decide +kernel
theorem f83_2 : am_tab 83 2 = some (.lshl, 1, 0, 0, 0, .null) := by decide +kernel
theorem f83_3 : am_tab 83 3 = some (.lconst 1, 1, 0, 0, 0, .null) := by decide +kernel
theorem f83_4 : am_tab 83 4 = some (.iload_n 0, 1, 0, 0, 0, .null) := by decide +kernel
theorem f83_5 : am_tab 83 5 = some (.lshl, 1, 0, 0, 0, .null) := by decide +kernel
theorem f83_6 : am_tab 83 6 = some (.lsub, 1, 0, 0, 0, .null) := by decide +kernel
theorem f83_7 : am_tab 83 7 = some (.lreturn, 1, 0, 0, 0, .null) := by decide +kernel
theorem f86_0 : am_tab 86 0 = some (.aload_n 0, 1, 0, 0, 0, .null) := by decide +kernel
theorem f86_1 : am_tab 86 1 = some (.invokespecial 3, 3, 0, 0, 1191, .int 6) := by decide +kernel
theorem f86_4 : am_tab 86 4 = some (.aload_n 0, 1, 0, 0, 0, .null) := by decide +kernel
theorem f86_5 : am_tab 86 5 = some (.iconst 2, 1, 0, 0, 0, .null) := by decide +kernel
theorem f86_6 : am_tab 86 6 = some (.anewarray 9, 3, 4, 0, 1192, .null) := by decide +kernel
theorem f86_9 : am_tab 86 9 = some (.putfield 11, 3, 6, 0, 1194, .null) := by decide +kernel
theorem f86_12 : am_tab 86 12 = some (.aload_n 0, 1, 0, 0, 0, .null) := by decide +kernel
theorem f86_13 : am_tab 86 13 = some (.iconst 2, 1, 0, 0, 0, .null) := by decide +kernel
theorem f86_14 : am_tab 86 14 = some (.newarray .boolean, 2, 2, 0, 1201, .null) := by decide +kernel
theorem f86_16 : am_tab 86 16 = some (.putfield 17, 3, 6, 1, 1195, .null) := by decide +kernel
theorem f86_19 : am_tab 86 19 = some (.iconst 0, 1, 0, 0, 0, .null) := by decide +kernel
theorem f86_20 : am_tab 86 20 = some (.istore_n 1, 1, 0, 0, 0, .null) := by decide +kernel
theorem f86_21 : am_tab 86 21 = some (.iload_n 1, 1, 0, 0, 0, .null) := by decide +kernel
theorem f86_22 : am_tab 86 22 = some (.iconst 2, 1, 0, 0, 0, .null) := by decide +kernel
theorem f86_23 : am_tab 86 23 = some (.if_icmp .ge 22, 3, 45, 0, 0, .null) := by decide +kernel
theorem f86_26 : am_tab 86 26 = some (.aload_n 0, 1, 0, 0, 0, .null) := by decide +kernel
theorem f86_27 : am_tab 86 27 = some (.getfield 11, 3, 6, 0, 1194, .null) := by decide +kernel
theorem f86_30 : am_tab 86 30 = some (.iload_n 1, 1, 0, 0, 0, .null) := by decide +kernel
theorem f86_31 : am_tab 86 31 = some (.new 9, 3, 3, 12, 1192, .null) := by decide +kernel
theorem f86_34 : am_tab 86 34 = some (.dup, 1, 0, 0, 0, .null) := by decide +kernel
theorem f86_35 : am_tab 86 35 = some (.invokespecial 21, 3, 41, 1, 1193, .int 4) := by decide +kernel
theorem f86_38 : am_tab 86 38 = some (.aastore, 1, 0, 0, 0, .null) := by decide +kernel
theorem f86_39 : am_tab 86 39 = some (.iinc 1 1, 3, 0, 0, 0, .null) := by decide +kernel
theorem f86_42 : am_tab 86 42 = some (.goto (-21), 3, 21, 0, 0, .null) := by decide +kernel
theorem f86_45 : am_tab 86 45 = some (.return_, 1, 0, 0, 0, .null) := by decide +kernel
theorem f91_0 : am_tab 91 0 = some (.aload_n 0, 1, 0, 0, 0, .null) := by decide +kernel
theorem f91_1 : am_tab 91 1 = some (.invokespecial 3, 3, 0, 0, 1161, .int 6) := by decide +kernel
theorem f91_4 : am_tab 91 4 = some (.aload_n 0, 1, 0, 0, 0, .null) := by decide +kernel
theorem f91_5 : am_tab 91 5 = some (.bipush 75, 2, 0, 0, 0, .null) := by decide +kernel
theorem f91_7 : am_tab 91 7 = some (.newarray .long, 2, 3, 0, 1166, .null) := by decide +kernel
theorem f91_9 : am_tab 91 9 = some (.putfield 11, 3, 7, 0, 1162, .null) := by decide +kernel
theorem f91_12 : am_tab 91 12 = some (.return_, 1, 0, 0, 0, .null) := by decide +kernel
theorem f92_0 : am_tab 92 0 = some (.aload_n 1, 1, 0, 0, 0, .null) := by decide +kernel
theorem f92_1 : am_tab 92 1 = some (.iload_n 2, 1, 0, 0, 0, .null) := by decide +kernel
theorem f92_2 : am_tab 92 2 = some (.invokevirtual 15, 3, 50, 2, 2236, .int 0) := by decide +kernel
theorem f92_5 : am_tab 92 5 = some (.istore 4, 2, 0, 0, 0, .null) := by decide +kernel
theorem f92_7 : am_tab 92 7 = some (.aload_n 1, 1, 0, 0, 0, .null) := by decide +kernel
theorem f92_8 : am_tab 92 8 = some (.iload_n 2, 1, 0, 0, 0, .null) := by decide +kernel
theorem f92_9 : am_tab 92 9 = some (.iconst 1, 1, 0, 0, 0, .null) := by decide +kernel
theorem f92_10 : am_tab 92 10 = some (.iadd, 1, 0, 0, 0, .null) := by decide +kernel
theorem f92_11 : am_tab 92 11 = some (.invokevirtual 15, 3, 50, 2, 2236, .int 0) := by decide +kernel
theorem f92_14 : am_tab 92 14 = some (.istore 5, 2, 0, 0, 0, .null) := by decide +kernel
theorem f92_16 : am_tab 92 16 = some (.iload_n 3, 1, 0, 0, 0, .null) := by decide +kernel
theorem f92_17 : am_tab 92 17 = some (.ifCond .lt 15, 3, 32, 0, 0, .null) := by decide +kernel
theorem f92_20 : am_tab 92 20 = some (.iload_n 3, 1, 0, 0, 0, .null) := by decide +kernel
theorem f92_21 : am_tab 92 21 = some (.aload_n 1, 1, 0, 0, 0, .null) := by decide +kernel
theorem f92_22 : am_tab 92 22 = some (.iload 4, 2, 0, 0, 0, .null) := by decide +kernel
theorem f92_24 : am_tab 92 24 = some (.iload 5, 2, 0, 0, 0, .null) := by decide +kernel
theorem f92_26 : am_tab 92 26 = some (.invokevirtual 21, 3, 52, 3, 2237, .int 0) := by decide +kernel
theorem f92_29 : am_tab 92 29 = some (.if_icmp .le 5, 3, 34, 0, 0, .null) := by decide +kernel
theorem f92_32 : am_tab 92 32 = some (.iconst 0, 1, 0, 0, 0, .null) := by decide +kernel
theorem f92_33 : am_tab 92 33 = some (.ireturn, 1, 0, 0, 0, .null) := by decide +kernel
theorem f92_34 : am_tab 92 34 = some (.iconst 0, 1, 0, 0, 0, .null) := by decide +kernel
theorem f92_35 : am_tab 92 35 = some (.istore 6, 2, 0, 0, 0, .null) := by decide +kernel
theorem f92_37 : am_tab 92 37 = some (.iload 6, 2, 0, 0, 0, .null) := by decide +kernel
theorem f92_39 : am_tab 92 39 = some (.bipush 75, 2, 0, 0, 0, .null) := by decide +kernel
theorem f92_41 : am_tab 92 41 = some (.if_icmp .ge 26, 3, 67, 0, 0, .null) := by decide +kernel
theorem f92_44 : am_tab 92 44 = some (.aload_n 0, 1, 0, 0, 0, .null) := by decide +kernel
theorem f92_45 : am_tab 92 45 = some (.getfield 11, 3, 7, 0, 1162, .null) := by decide +kernel
theorem f92_48 : am_tab 92 48 = some (.iload 6, 2, 0, 0, 0, .null) := by decide +kernel
theorem f92_50 : am_tab 92 50 = some (.iload 6, 2, 0, 0, 0, .null) := by decide +kernel
theorem f92_52 : am_tab 92 52 = some (.ifCond .ne 7, 3, 59, 0, 0, .null) := by decide +kernel
theorem f92_55 : am_tab 92 55 = some (.lconst 1, 1, 0, 0, 0, .null) := by decide +kernel
theorem f92_56 : am_tab 92 56 = some (.goto 4, 3, 60, 0, 0, .null) := by decide +kernel
theorem f92_59 : am_tab 92 59 = some (.lconst 0, 1, 0, 0, 0, .null) := by decide +kernel
theorem f92_60 : am_tab 92 60 = some (.lastore, 1, 0, 0, 0, .null) := by decide +kernel
theorem f92_61 : am_tab 92 61 = some (.iinc 6 1, 3, 0, 0, 0, .null) := by decide +kernel
theorem f92_64 : am_tab 92 64 = some (.goto (-27), 3, 37, 0, 0, .null) := by decide +kernel
theorem f92_67 : am_tab 92 67 = some (.iload 4, 2, 0, 0, 0, .null) := by decide +kernel
theorem f92_69 : am_tab 92 69 = some (.istore 6, 2, 0, 0, 0, .null) := by decide +kernel
theorem f92_71 : am_tab 92 71 = some (.iload 6, 2, 0, 0, 0, .null) := by decide +kernel
theorem f92_73 : am_tab 92 73 = some (.iload 5, 2, 0, 0, 0, .null) := by decide +kernel
theorem f92_75 : am_tab 92 75 = some (.if_icmp .ge 19, 3, 94, 0, 0, .null) := by decide +kernel
theorem f92_78 : am_tab 92 78 = some (.aload_n 0, 1, 0, 0, 0, .null) := by decide +kernel
theorem f92_79 : am_tab 92 79 = some (.aload_n 1, 1, 0, 0, 0, .null) := by decide +kernel
theorem f92_80 : am_tab 92 80 = some (.iload 6, 2, 0, 0, 0, .null) := by decide +kernel
theorem f92_82 : am_tab 92 82 = some (.invokevirtual 25, 3, 43, 2, 2238, .int 0) := by decide +kernel
theorem f92_85 : am_tab 92 85 = some (.invokevirtual 28, 3, 93, 2, 2239, .int 0) := by decide +kernel
theorem f92_88 : am_tab 92 88 = some (.iinc 6 1, 3, 0, 0, 0, .null) := by decide +kernel
theorem f92_91 : am_tab 92 91 = some (.goto (-20), 3, 71, 0, 0, .null) := by decide +kernel
theorem f92_94 : am_tab 92 94 = some (.aload_n 0, 1, 0, 0, 0, .null) := by decide +kernel
theorem f92_95 : am_tab 92 95 = some (.iload_n 3, 1, 0, 0, 0, .null) := by decide +kernel
theorem f92_96 : am_tab 92 96 = some (.bipush 64, 2, 0, 0, 0, .null) := by decide +kernel
theorem f92_98 : am_tab 92 98 = some (.idiv, 1, 0, 0, 0, .null) := by decide +kernel
theorem f92_99 : am_tab 92 99 = some (.invokevirtual 32, 3, 94, 2, 3003, .int 0) := by decide +kernel
theorem f92_102 : am_tab 92 102 = some (.iload_n 3, 1, 0, 0, 0, .null) := by decide +kernel
theorem f92_103 : am_tab 92 103 = some (.bipush 64, 2, 0, 0, 0, .null) := by decide +kernel
theorem f92_105 : am_tab 92 105 = some (.irem, 1, 0, 0, 0, .null) := by decide +kernel
theorem f92_106 : am_tab 92 106 = some (.lushr, 1, 0, 0, 0, .null) := by decide +kernel
theorem f92_107 : am_tab 92 107 = some (.lconst 1, 1, 0, 0, 0, .null) := by decide +kernel
theorem f92_108 : am_tab 92 108 = some (.land, 1, 0, 0, 0, .null) := by decide +kernel
theorem f92_109 : am_tab 92 109 = some (.lconst 1, 1, 0, 0, 0, .null) := by decide +kernel
theorem f92_110 : am_tab 92 110 = some (.lcmp, 1, 0, 0, 0, .null) := by decide +kernel
theorem f92_111 : am_tab 92 111 = some (.ifCond .ne 7, 3, 118, 0, 0, .null) := by decide +kernel
theorem f92_114 : am_tab 92 114 = some (.iconst 1, 1, 0, 0, 0, .null) := by decide +kernel
theorem f92_115 : am_tab 92 115 = some (.goto 4, 3, 119, 0, 0, .null) := by decide +kernel
theorem f92_118 : am_tab 92 118 = some (.iconst 0, 1, 0, 0, 0, .null) := by decide +kernel
theorem f92_119 : am_tab 92 119 = some (.ireturn, 1, 0, 0, 0, .null) := by decide +kernel
theorem f93_0 : am_tab 93 0 = some (.iload_n 1, 1, 0, 0, 0, .null) := by decide +kernel
theorem f93_1 : am_tab 93 1 = some (.bipush 64, 2, 0, 0, 0, .null) := by decide +kernel
theorem f93_3 : am_tab 93 3 = some (.idiv, 1, 0, 0, 0, .null) := by decide +kernel
theorem f93_4 : am_tab 93 4 = some (.istore_n 2, 1, 0, 0, 0, .null) := by decide +kernel
theorem f93_5 : am_tab 93 5 = some (.iload_n 1, 1, 0, 0, 0, .null) := by decide +kernel
theorem f93_6 : am_tab 93 6 = some (.bipush 64, 2, 0, 0, 0, .null) := by decide +kernel
theorem f93_8 : am_tab 93 8 = some (.irem, 1, 0, 0, 0, .null) := by decide +kernel
theorem f93_9 : am_tab 93 9 = some (.istore_n 3, 1, 0, 0, 0, .null) := by decide +kernel
theorem f93_10 : am_tab 93 10 = some (.bipush 74, 2, 0, 0, 0, .null) := by decide +kernel
theorem f93_12 : am_tab 93 12 = some (.istore 4, 2, 0, 0, 0, .null) := by decide +kernel
theorem f93_14 : am_tab 93 14 = some (.iload 4, 2, 0, 0, 0, .null) := by decide +kernel
theorem f93_16 : am_tab 93 16 = some (.ifCond .lt 57, 3, 73, 0, 0, .null) := by decide +kernel
theorem f93_19 : am_tab 93 19 = some (.aload_n 0, 1, 0, 0, 0, .null) := by decide +kernel
theorem f93_20 : am_tab 93 20 = some (.iload 4, 2, 0, 0, 0, .null) := by decide +kernel
theorem f93_22 : am_tab 93 22 = some (.iload_n 2, 1, 0, 0, 0, .null) := by decide +kernel
theorem f93_23 : am_tab 93 23 = some (.isub, 1, 0, 0, 0, .null) := by decide +kernel
theorem f93_24 : am_tab 93 24 = some (.invokevirtual 32, 3, 94, 2, 3003, .int 0) := by decide +kernel
theorem f93_27 : am_tab 93 27 = some (.iload_n 3, 1, 0, 0, 0, .null) := by decide +kernel
theorem f93_28 : am_tab 93 28 = some (.lshl, 1, 0, 0, 0, .null) := by decide +kernel
theorem f93_29 : am_tab 93 29 = some (.lstore 5, 2, 0, 0, 0, .null) := by decide +kernel
theorem f93_31 : am_tab 93 31 = some (.iload_n 3, 1, 0, 0, 0, .null) := by decide +kernel
theorem f93_32 : am_tab 93 32 = some (.ifCond .le 23, 3, 55, 0, 0, .null) := by decide +kernel
theorem f93_35 : am_tab 93 35 = some (.lload 5, 2, 0, 0, 0, .null) := by decide +kernel
theorem f93_37 : am_tab 93 37 = some (.aload_n 0, 1, 0, 0, 0, .null) := by decide +kernel
theorem f93_38 : am_tab 93 38 = some (.iload 4, 2, 0, 0, 0, .null) := by decide +kernel
theorem f93_40 : am_tab 93 40 = some (.iload_n 2, 1, 0, 0, 0, .null) := by decide +kernel
theorem f93_41 : am_tab 93 41 = some (.isub, 1, 0, 0, 0, .null) := by decide +kernel
theorem f93_42 : am_tab 93 42 = some (.iconst 1, 1, 0, 0, 0, .null) := by decide +kernel
theorem f93_43 : am_tab 93 43 = some (.isub, 1, 0, 0, 0, .null) := by decide +kernel
theorem f93_44 : am_tab 93 44 = some (.invokevirtual 32, 3, 94, 2, 3003, .int 0) := by decide +kernel
theorem f93_47 : am_tab 93 47 = some (.bipush 64, 2, 0, 0, 0, .null) := by decide +kernel
theorem f93_49 : am_tab 93 49 = some (.iload_n 3, 1, 0, 0, 0, .null) := by decide +kernel
theorem f93_50 : am_tab 93 50 = some (.isub, 1, 0, 0, 0, .null) := by decide +kernel
theorem f93_51 : am_tab 93 51 = some (.lushr, 1, 0, 0, 0, .null) := by decide +kernel
theorem f93_52 : am_tab 93 52 = some (.lor, 1, 0, 0, 0, .null) := by decide +kernel
theorem f93_53 : am_tab 93 53 = some (.lstore 5, 2, 0, 0, 0, .null) := by decide +kernel
theorem f93_55 : am_tab 93 55 = some (.aload_n 0, 1, 0, 0, 0, .null) := by decide +kernel
theorem f93_56 : am_tab 93 56 = some (.getfield 11, 3, 7, 0, 1162, .null) := by decide +kernel
theorem f93_59 : am_tab 93 59 = some (.iload 4, 2, 0, 0, 0, .null) := by decide +kernel
theorem f93_61 : am_tab 93 61 = some (.dup2, 1, 0, 0, 0, .null) := by decide +kernel
theorem f93_62 : am_tab 93 62 = some (.laload, 1, 0, 0, 0, .null) := by decide +kernel
theorem f93_63 : am_tab 93 63 = some (.lload 5, 2, 0, 0, 0, .null) := by decide +kernel
theorem f93_65 : am_tab 93 65 = some (.lor, 1, 0, 0, 0, .null) := by decide +kernel
theorem f93_66 : am_tab 93 66 = some (.lastore, 1, 0, 0, 0, .null) := by decide +kernel
theorem f93_67 : am_tab 93 67 = some (.iinc 4 (-1), 3, 0, 0, 0, .null) := by decide +kernel
theorem f93_70 : am_tab 93 70 = some (.goto (-56), 3, 14, 0, 0, .null) := by decide +kernel
theorem f93_73 : am_tab 93 73 = some (.return_, 1, 0, 0, 0, .null) := by decide +kernel
theorem f94_0 : am_tab 94 0 = some (.iload_n 1, 1, 0, 0, 0, .null) := by decide +kernel
theorem f94_1 : am_tab 94 1 = some (.ifCond .lt 18, 3, 19, 0, 0, .null) := by decide +kernel
theorem f94_4 : am_tab 94 4 = some (.iload_n 1, 1, 0, 0, 0, .null) := by decide +kernel
theorem f94_5 : am_tab 94 5 = some (.bipush 75, 2, 0, 0, 0, .null) := by decide +kernel
theorem f94_7 : am_tab 94 7 = some (.if_icmp .ge 12, 3, 19, 0, 0, .null) := by decide +kernel
theorem f94_10 : am_tab 94 10 = some (.aload_n 0, 1, 0, 0, 0, .null) := by decide +kernel
theorem f94_11 : am_tab 94 11 = some (.getfield 11, 3, 7, 0, 1162, .null) := by decide +kernel
theorem f94_14 : am_tab 94 14 = some (.iload_n 1, 1, 0, 0, 0, .null) := by decide +kernel
theorem f94_15 : am_tab 94 15 = some (.laload, 1, 0, 0, 0, .null) := by decide +kernel
theorem f94_16 : am_tab 94 16 = some (.goto 4, 3, 20, 0, 0, .null) := by decide +kernel
theorem f94_19 : am_tab 94 19 = some (.lconst 0, 1, 0, 0, 0, .null) := by decide +kernel
theorem f94_20 : am_tab 94 20 = some (.lreturn, 1, 0, 0, 0, .null) := by decide +kernel
theorem f95_0 : am_tab 95 0 = some (.aload_n 0, 1, 0, 0, 0, .null) := by decide +kernel
theorem f95_1 : am_tab 95 1 = some (.invokespecial 3, 3, 0, 0, 1207, .int 6) := by decide +kernel
theorem f95_4 : am_tab 95 4 = some (.aload_n 0, 1, 0, 0, 0, .null) := by decide +kernel
theorem f95_5 : am_tab 95 5 = some (.bipush 120, 2, 0, 0, 0, .null) := by decide +kernel
theorem f95_7 : am_tab 95 7 = some (.newarray .char, 2, 1, 0, 1222, .null) := by decide +kernel
theorem f95_9 : am_tab 95 9 = some (.putfield 9, 3, 8, 0, 1208, .null) := by decide +kernel
theorem f95_12 : am_tab 95 12 = some (.return_, 1, 0, 0, 0, .null) := by decide +kernel
theorem f106_0 : am_tab 106 0 = some (.aload_n 0, 1, 0, 0, 0, .null) := by decide +kernel
theorem f106_1 : am_tab 106 1 = some (.invokespecial 1, 3, 0, 0, 1025, .int 6) := by decide +kernel
theorem f106_4 : am_tab 106 4 = some (.aload_n 0, 1, 0, 0, 0, .null) := by decide +kernel
theorem f106_5 : am_tab 106 5 = some (.new 7, 3, 1, 2, 1028, .null) := by decide +kernel
theorem f106_8 : am_tab 106 8 = some (.dup, 1, 0, 0, 0, .null) := by decide +kernel
theorem f106_9 : am_tab 106 9 = some (.invokespecial 9, 3, 27, 1, 1030, .int 5) := by decide +kernel
theorem f106_12 : am_tab 106 12 = some (.putfield 10, 3, 9, 0, 1223, .null) := by decide +kernel
theorem f106_15 : am_tab 106 15 = some (.aload_n 0, 1, 0, 0, 0, .null) := by decide +kernel
theorem f106_16 : am_tab 106 16 = some (.aload_n 0, 1, 0, 0, 0, .null) := by decide +kernel
theorem f106_17 : am_tab 106 17 = some (.getfield 10, 3, 9, 0, 1223, .null) := by decide +kernel
theorem f106_20 : am_tab 106 20 = some (.getfield 16, 3, 1, 0, 1121, .int 1) := by decide +kernel
theorem f106_23 : am_tab 106 23 = some (.putfield 20, 3, 9, 1, 1224, .null) := by decide +kernel
theorem f106_26 : am_tab 106 26 = some (.aload_n 0, 1, 0, 0, 0, .null) := by decide +kernel
theorem f106_27 : am_tab 106 27 = some (.new 7, 3, 1, 2, 1028, .null) := by decide +kernel
theorem f106_30 : am_tab 106 30 = some (.dup, 1, 0, 0, 0, .null) := by decide +kernel
theorem f106_31 : am_tab 106 31 = some (.invokespecial 9, 3, 27, 1, 1030, .int 5) := by decide +kernel
theorem f106_34 : am_tab 106 34 = some (.putfield 23, 3, 9, 2, 1225, .null) := by decide +kernel
theorem f106_37 : am_tab 106 37 = some (.aload_n 0, 1, 0, 0, 0, .null) := by decide +kernel
theorem f106_38 : am_tab 106 38 = some (.aload_n 0, 1, 0, 0, 0, .null) := by decide +kernel
theorem f106_39 : am_tab 106 39 = some (.getfield 23, 3, 9, 2, 1225, .null) := by decide +kernel
theorem f106_42 : am_tab 106 42 = some (.getfield 16, 3, 1, 0, 1121, .int 1) := by decide +kernel
theorem f106_45 : am_tab 106 45 = some (.putfield 26, 3, 9, 3, 1226, .null) := by decide +kernel
theorem f106_48 : am_tab 106 48 = some (.aload_n 0, 1, 0, 0, 0, .null) := by decide +kernel
theorem f106_49 : am_tab 106 49 = some (.new 29, 3, 3, 12, 1129, .null) := by decide +kernel
theorem f106_52 : am_tab 106 52 = some (.dup, 1, 0, 0, 0, .null) := by decide +kernel
theorem f106_53 : am_tab 106 53 = some (.invokespecial 31, 3, 41, 1, 1130, .int 4) := by decide +kernel
theorem f106_56 : am_tab 106 56 = some (.putfield 32, 3, 9, 4, 1227, .null) := by decide +kernel
theorem f106_59 : am_tab 106 59 = some (.aload_n 0, 1, 0, 0, 0, .null) := by decide +kernel
theorem f106_60 : am_tab 106 60 = some (.new 35, 3, 5, 4, 1131, .null) := by decide +kernel
theorem f106_63 : am_tab 106 63 = some (.dup, 1, 0, 0, 0, .null) := by decide +kernel
theorem f106_64 : am_tab 106 64 = some (.invokespecial 37, 3, 80, 1, 1132, .int 5) := by decide +kernel
theorem f106_67 : am_tab 106 67 = some (.putfield 38, 3, 9, 5, 1228, .null) := by decide +kernel
theorem f106_70 : am_tab 106 70 = some (.aload_n 0, 1, 0, 0, 0, .null) := by decide +kernel
theorem f106_71 : am_tab 106 71 = some (.new 42, 3, 4, 4, 1133, .null) := by decide +kernel
theorem f106_74 : am_tab 106 74 = some (.dup, 1, 0, 0, 0, .null) := by decide +kernel
theorem f106_75 : am_tab 106 75 = some (.invokespecial 44, 3, 69, 1, 1135, .int 5) := by decide +kernel
theorem f106_78 : am_tab 106 78 = some (.putfield 45, 3, 9, 6, 1229, .null) := by decide +kernel
theorem f106_81 : am_tab 106 81 = some (.aload_n 0, 1, 0, 0, 0, .null) := by decide +kernel
theorem f106_82 : am_tab 106 82 = some (.new 49, 3, 7, 1, 1156, .null) := by decide +kernel
theorem f106_85 : am_tab 106 85 = some (.dup, 1, 0, 0, 0, .null) := by decide +kernel
theorem f106_86 : am_tab 106 86 = some (.invokespecial 51, 3, 91, 1, 1158, .int 5) := by decide +kernel
theorem f106_89 : am_tab 106 89 = some (.putfield 52, 3, 9, 7, 1230, .null) := by decide +kernel
theorem f106_92 : am_tab 106 92 = some (.aload_n 0, 1, 0, 0, 0, .null) := by decide +kernel
theorem f106_93 : am_tab 106 93 = some (.new 56, 3, 2, 3, 1167, .null) := by decide +kernel
theorem f106_96 : am_tab 106 96 = some (.dup, 1, 0, 0, 0, .null) := by decide +kernel
theorem f106_97 : am_tab 106 97 = some (.invokespecial 58, 3, 36, 1, 1169, .int 4) := by decide +kernel
theorem f106_100 : am_tab 106 100 = some (.putfield 59, 3, 9, 8, 1231, .null) := by decide +kernel
theorem f106_103 : am_tab 106 103 = some (.aload_n 0, 1, 0, 0, 0, .null) := by decide +kernel
theorem f106_104 : am_tab 106 104 = some (.new 63, 3, 6, 2, 1186, .null) := by decide +kernel
theorem f106_107 : am_tab 106 107 = some (.dup, 1, 0, 0, 0, .null) := by decide +kernel
theorem f106_108 : am_tab 106 108 = some (.invokespecial 65, 3, 86, 1, 1188, .int 4) := by decide +kernel
theorem f106_111 : am_tab 106 111 = some (.putfield 66, 3, 9, 9, 1232, .null) := by decide +kernel
theorem f106_114 : am_tab 106 114 = some (.aload_n 0, 1, 0, 0, 0, .null) := by decide +kernel
theorem f106_115 : am_tab 106 115 = some (.new 70, 3, 8, 6, 1202, .null) := by decide +kernel
theorem f106_118 : am_tab 106 118 = some (.dup, 1, 0, 0, 0, .null) := by decide +kernel
theorem f106_119 : am_tab 106 119 = some (.invokespecial 72, 3, 95, 1, 1204, .int 5) := by decide +kernel
theorem f106_122 : am_tab 106 122 = some (.putfield 73, 3, 9, 10, 1233, .null) := by decide +kernel
theorem f106_125 : am_tab 106 125 = some (.return_, 1, 0, 0, 0, .null) := by decide +kernel
theorem f111_0 : am_tab 111 0 = some (.iload_n 1, 1, 0, 0, 0, .null) := by decide +kernel
theorem f111_1 : am_tab 111 1 = some (.tableswitch 167 0 10 #[59, 67, 78, 89, 100, 116, 124, 135, 143, 151, 159], 59, 0, 0, 0, .null) := by decide +kernel
theorem f111_60 : am_tab 111 60 = some (.aload_n 0, 1, 0, 0, 0, .null) := by decide +kernel
theorem f111_61 : am_tab 111 61 = some (.getfield 20, 3, 9, 1, 1224, .null) := by decide +kernel
theorem f111_64 : am_tab 111 64 = some (.invokevirtual 139, 3, 48, 1, 2149, .int 0) := by decide +kernel
theorem f111_67 : am_tab 111 67 = some (.ireturn, 1, 0, 0, 0, .null) := by decide +kernel
theorem f111_68 : am_tab 111 68 = some (.aload_n 0, 1, 0, 0, 0, .null) := by decide +kernel
theorem f111_69 : am_tab 111 69 = some (.getfield 20, 3, 9, 1, 1224, .null) := by decide +kernel
theorem f111_72 : am_tab 111 72 = some (.getfield 142, 3, 3, 5, 1047, .int 1) := by decide +kernel
theorem f111_75 : am_tab 111 75 = some (.invokestatic 146, 3, 231, 1, 2153, .int 2) := by decide +kernel
theorem f111_78 : am_tab 111 78 = some (.ireturn, 1, 0, 0, 0, .null) := by decide +kernel
theorem f111_79 : am_tab 111 79 = some (.aload_n 0, 1, 0, 0, 0, .null) := by decide +kernel
theorem f111_80 : am_tab 111 80 = some (.getfield 20, 3, 9, 1, 1224, .null) := by decide +kernel
theorem f111_83 : am_tab 111 83 = some (.iconst 0, 1, 0, 0, 0, .null) := by decide +kernel
theorem f111_84 : am_tab 111 84 = some (.bipush 48, 2, 0, 0, 0, .null) := by decide +kernel
theorem f111_86 : am_tab 111 86 = some (.invokevirtual 152, 3, 52, 3, 2154, .int 0) := by decide +kernel
theorem f111_89 : am_tab 111 89 = some (.ireturn, 1, 0, 0, 0, .null) := by decide +kernel
theorem f111_90 : am_tab 111 90 = some (.aload_n 0, 1, 0, 0, 0, .null) := by decide +kernel
theorem f111_91 : am_tab 111 91 = some (.getfield 20, 3, 9, 1, 1224, .null) := by decide +kernel
theorem f111_94 : am_tab 111 94 = some (.iconst 0, 1, 0, 0, 0, .null) := by decide +kernel
theorem f111_95 : am_tab 111 95 = some (.bipush 48, 2, 0, 0, 0, .null) := by decide +kernel
theorem f111_97 : am_tab 111 97 = some (.invokevirtual 156, 3, 53, 3, 2164, .int 0) := by decide +kernel
theorem f111_100 : am_tab 111 100 = some (.ireturn, 1, 0, 0, 0, .null) := by decide +kernel
theorem f111_101 : am_tab 111 101 = some (.aload_n 0, 1, 0, 0, 0, .null) := by decide +kernel
theorem f111_102 : am_tab 111 102 = some (.getfield 20, 3, 9, 1, 1224, .null) := by decide +kernel
theorem f111_105 : am_tab 111 105 = some (.getfield 159, 3, 3, 7, 1051, .int 1) := by decide +kernel
theorem f111_108 : am_tab 111 108 = some (.ifCond .eq 7, 3, 115, 0, 0, .null) := by decide +kernel
theorem f111_111 : am_tab 111 111 = some (.iconst 1, 1, 0, 0, 0, .null) := by decide +kernel
theorem f111_112 : am_tab 111 112 = some (.goto 4, 3, 116, 0, 0, .null) := by decide +kernel
theorem f111_115 : am_tab 111 115 = some (.iconst 0, 1, 0, 0, 0, .null) := by decide +kernel
theorem f111_116 : am_tab 111 116 = some (.ireturn, 1, 0, 0, 0, .null) := by decide +kernel
theorem f111_117 : am_tab 111 117 = some (.aload_n 0, 1, 0, 0, 0, .null) := by decide +kernel
theorem f111_118 : am_tab 111 118 = some (.getfield 20, 3, 9, 1, 1224, .null) := by decide +kernel
theorem f111_121 : am_tab 111 121 = some (.getfield 163, 3, 3, 9, 1056, .int 1) := by decide +kernel
theorem f111_124 : am_tab 111 124 = some (.ireturn, 1, 0, 0, 0, .null) := by decide +kernel
theorem f111_125 : am_tab 111 125 = some (.aload_n 0, 1, 0, 0, 0, .null) := by decide +kernel
theorem f111_126 : am_tab 111 126 = some (.getfield 20, 3, 9, 1, 1224, .null) := by decide +kernel
theorem f111_129 : am_tab 111 129 = some (.getfield 166, 3, 3, 6, 1049, .int 1) := by decide +kernel
theorem f111_132 : am_tab 111 132 = some (.invokestatic 146, 3, 231, 1, 2153, .int 2) := by decide +kernel
theorem f111_135 : am_tab 111 135 = some (.ireturn, 1, 0, 0, 0, .null) := by decide +kernel
theorem f111_136 : am_tab 111 136 = some (.aload_n 0, 1, 0, 0, 0, .null) := by decide +kernel
theorem f111_137 : am_tab 111 137 = some (.getfield 20, 3, 9, 1, 1224, .null) := by decide +kernel
theorem f111_140 : am_tab 111 140 = some (.getfield 169, 3, 3, 10, 1058, .int 1) := by decide +kernel
theorem f111_143 : am_tab 111 143 = some (.ireturn, 1, 0, 0, 0, .null) := by decide +kernel
theorem f111_144 : am_tab 111 144 = some (.aload_n 0, 1, 0, 0, 0, .null) := by decide +kernel
theorem f111_145 : am_tab 111 145 = some (.getfield 20, 3, 9, 1, 1224, .null) := by decide +kernel
theorem f111_148 : am_tab 111 148 = some (.getfield 172, 3, 3, 11, 1060, .int 1) := by decide +kernel
theorem f111_151 : am_tab 111 151 = some (.ireturn, 1, 0, 0, 0, .null) := by decide +kernel
theorem f111_152 : am_tab 111 152 = some (.aload_n 0, 1, 0, 0, 0, .null) := by decide +kernel
theorem f111_153 : am_tab 111 153 = some (.getfield 20, 3, 9, 1, 1224, .null) := by decide +kernel
theorem f111_156 : am_tab 111 156 = some (.getfield 175, 3, 3, 8, 1054, .int 1) := by decide +kernel
theorem f111_159 : am_tab 111 159 = some (.ireturn, 1, 0, 0, 0, .null) := by decide +kernel
theorem f111_160 : am_tab 111 160 = some (.aload_n 0, 1, 0, 0, 0, .null) := by decide +kernel
theorem f111_161 : am_tab 111 161 = some (.getfield 20, 3, 9, 1, 1224, .null) := by decide +kernel
theorem f111_164 : am_tab 111 164 = some (.invokevirtual 178, 3, 54, 1, 2169, .int 0) := by decide +kernel
theorem f111_167 : am_tab 111 167 = some (.ireturn, 1, 0, 0, 0, .null) := by decide +kernel
theorem f111_168 : am_tab 111 168 = some (.athrow, 0, 0, 0, 0, .null) := by decide +kernel
theorem f112_0 : am_tab 112 0 = some (.iload_n 1, 1, 0, 0, 0, .null) := by decide +kernel
theorem f112_1 : am_tab 112 1 = some (.invokestatic 183, 3, 134, 1, 2035, .int 2) := by decide +kernel
theorem f112_4 : am_tab 112 4 = some (.ifCond .ne 13, 3, 17, 0, 0, .null) := by decide +kernel
theorem f112_7 : am_tab 112 7 = some (.athrow, 0, 2, 0, 1, .null) := by decide +kernel
theorem f112_17 : am_tab 112 17 = some (.iload_n 2, 1, 0, 0, 0, .null) := by decide +kernel
theorem f112_18 : am_tab 112 18 = some (.tableswitch 85 0 4 #[34, 43, 55, 64, 73], 34, 0, 0, 0, .null) := by decide +kernel
theorem f112_52 : am_tab 112 52 = some (.aload_n 0, 1, 0, 0, 0, .null) := by decide +kernel
theorem f112_53 : am_tab 112 53 = some (.getfield 20, 3, 9, 1, 1224, .null) := by decide +kernel
theorem f112_56 : am_tab 112 56 = some (.iload_n 1, 1, 0, 0, 0, .null) := by decide +kernel
theorem f112_57 : am_tab 112 57 = some (.invokevirtual 192, 3, 43, 2, 2106, .int 0) := by decide +kernel
theorem f112_60 : am_tab 112 60 = some (.ireturn, 1, 0, 0, 0, .null) := by decide +kernel
theorem f112_61 : am_tab 112 61 = some (.aload_n 0, 1, 0, 0, 0, .null) := by decide +kernel
theorem f112_62 : am_tab 112 62 = some (.getfield 20, 3, 9, 1, 1224, .null) := by decide +kernel
theorem f112_65 : am_tab 112 65 = some (.getfield 142, 3, 3, 5, 1047, .int 1) := by decide +kernel
theorem f112_68 : am_tab 112 68 = some (.iload_n 1, 1, 0, 0, 0, .null) := by decide +kernel
theorem f112_69 : am_tab 112 69 = some (.invokestatic 196, 3, 141, 2, 2111, .int 2) := by decide +kernel
theorem f112_72 : am_tab 112 72 = some (.ireturn, 1, 0, 0, 0, .null) := by decide +kernel
theorem f112_73 : am_tab 112 73 = some (.aload_n 0, 1, 0, 0, 0, .null) := by decide +kernel
theorem f112_74 : am_tab 112 74 = some (.getfield 20, 3, 9, 1, 1224, .null) := by decide +kernel
theorem f112_77 : am_tab 112 77 = some (.iload_n 1, 1, 0, 0, 0, .null) := by decide +kernel
theorem f112_78 : am_tab 112 78 = some (.invokevirtual 200, 3, 44, 2, 2114, .int 0) := by decide +kernel
theorem f112_81 : am_tab 112 81 = some (.ireturn, 1, 0, 0, 0, .null) := by decide +kernel
theorem f112_82 : am_tab 112 82 = some (.aload_n 0, 1, 0, 0, 0, .null) := by decide +kernel
theorem f112_83 : am_tab 112 83 = some (.getfield 20, 3, 9, 1, 1224, .null) := by decide +kernel
theorem f112_86 : am_tab 112 86 = some (.iload_n 1, 1, 0, 0, 0, .null) := by decide +kernel
theorem f112_87 : am_tab 112 87 = some (.invokevirtual 203, 3, 51, 2, 2118, .int 0) := by decide +kernel
theorem f112_90 : am_tab 112 90 = some (.ireturn, 1, 0, 0, 0, .null) := by decide +kernel
theorem f112_91 : am_tab 112 91 = some (.aload_n 0, 1, 0, 0, 0, .null) := by decide +kernel
theorem f112_92 : am_tab 112 92 = some (.getfield 20, 3, 9, 1, 1224, .null) := by decide +kernel
theorem f112_95 : am_tab 112 95 = some (.getfield 166, 3, 3, 6, 1049, .int 1) := by decide +kernel
theorem f112_98 : am_tab 112 98 = some (.iload_n 1, 1, 0, 0, 0, .null) := by decide +kernel
theorem f112_99 : am_tab 112 99 = some (.invokestatic 196, 3, 141, 2, 2111, .int 2) := by decide +kernel
theorem f112_102 : am_tab 112 102 = some (.ireturn, 1, 0, 0, 0, .null) := by decide +kernel
theorem f112_103 : am_tab 112 103 = some (.athrow, 0, 0, 0, 2, .null) := by decide +kernel
theorem f113_0 : am_tab 113 0 = some (.aload_n 0, 1, 0, 0, 0, .null) := by decide +kernel
theorem f113_1 : am_tab 113 1 = some (.getfield 20, 3, 9, 1, 1224, .null) := by decide +kernel
theorem f113_4 : am_tab 113 4 = some (.iload_n 1, 1, 0, 0, 0, .null) := by decide +kernel
theorem f113_5 : am_tab 113 5 = some (.invokevirtual 208, 3, 49, 2, 2190, .int 0) := by decide +kernel
theorem f113_8 : am_tab 113 8 = some (.ifCond .ne 13, 3, 21, 0, 0, .null) := by decide +kernel
theorem f113_11 : am_tab 113 11 = some (.athrow, 0, 2, 0, 3, .null) := by decide +kernel
theorem f113_21 : am_tab 113 21 = some (.aload_n 0, 1, 0, 0, 0, .null) := by decide +kernel
theorem f113_22 : am_tab 113 22 = some (.getfield 20, 3, 9, 1, 1224, .null) := by decide +kernel
theorem f113_25 : am_tab 113 25 = some (.iload_n 1, 1, 0, 0, 0, .null) := by decide +kernel
theorem f113_26 : am_tab 113 26 = some (.invokevirtual 213, 3, 50, 2, 2196, .int 0) := by decide +kernel
theorem f113_29 : am_tab 113 29 = some (.istore_n 3, 1, 0, 0, 0, .null) := by decide +kernel
theorem f113_30 : am_tab 113 30 = some (.aload_n 0, 1, 0, 0, 0, .null) := by decide +kernel
theorem f113_31 : am_tab 113 31 = some (.getfield 20, 3, 9, 1, 1224, .null) := by decide +kernel
theorem f113_34 : am_tab 113 34 = some (.iload_n 1, 1, 0, 0, 0, .null) := by decide +kernel
theorem f113_35 : am_tab 113 35 = some (.iconst 1, 1, 0, 0, 0, .null) := by decide +kernel
theorem f113_36 : am_tab 113 36 = some (.iadd, 1, 0, 0, 0, .null) := by decide +kernel
theorem f113_37 : am_tab 113 37 = some (.invokevirtual 213, 3, 50, 2, 2196, .int 0) := by decide +kernel
theorem f113_40 : am_tab 113 40 = some (.istore 4, 2, 0, 0, 0, .null) := by decide +kernel
theorem f113_42 : am_tab 113 42 = some (.iload_n 2, 1, 0, 0, 0, .null) := by decide +kernel
theorem f113_43 : am_tab 113 43 = some (.tableswitch 104 0 5 #[37, 39, 44, 55, 66, 75], 37, 0, 0, 0, .null) := by decide +kernel
theorem f113_80 : am_tab 113 80 = some (.iload_n 3, 1, 0, 0, 0, .null) := by decide +kernel
theorem f113_81 : am_tab 113 81 = some (.ireturn, 1, 0, 0, 0, .null) := by decide +kernel
theorem f113_82 : am_tab 113 82 = some (.iload 4, 2, 0, 0, 0, .null) := by decide +kernel
theorem f113_84 : am_tab 113 84 = some (.iload_n 3, 1, 0, 0, 0, .null) := by decide +kernel
theorem f113_85 : am_tab 113 85 = some (.isub, 1, 0, 0, 0, .null) := by decide +kernel
theorem f113_86 : am_tab 113 86 = some (.ireturn, 1, 0, 0, 0, .null) := by decide +kernel
theorem f113_87 : am_tab 113 87 = some (.aload_n 0, 1, 0, 0, 0, .null) := by decide +kernel
theorem f113_88 : am_tab 113 88 = some (.getfield 20, 3, 9, 1, 1224, .null) := by decide +kernel
theorem f113_91 : am_tab 113 91 = some (.iload_n 3, 1, 0, 0, 0, .null) := by decide +kernel
theorem f113_92 : am_tab 113 92 = some (.iload 4, 2, 0, 0, 0, .null) := by decide +kernel
theorem f113_94 : am_tab 113 94 = some (.invokevirtual 152, 3, 52, 3, 2154, .int 0) := by decide +kernel
theorem f113_97 : am_tab 113 97 = some (.ireturn, 1, 0, 0, 0, .null) := by decide +kernel
theorem f113_98 : am_tab 113 98 = some (.aload_n 0, 1, 0, 0, 0, .null) := by decide +kernel
theorem f113_99 : am_tab 113 99 = some (.getfield 20, 3, 9, 1, 1224, .null) := by decide +kernel
theorem f113_102 : am_tab 113 102 = some (.iload_n 3, 1, 0, 0, 0, .null) := by decide +kernel
theorem f113_103 : am_tab 113 103 = some (.iload 4, 2, 0, 0, 0, .null) := by decide +kernel
theorem f113_105 : am_tab 113 105 = some (.invokevirtual 156, 3, 53, 3, 2164, .int 0) := by decide +kernel
theorem f113_108 : am_tab 113 108 = some (.ireturn, 1, 0, 0, 0, .null) := by decide +kernel
theorem f113_109 : am_tab 113 109 = some (.aload_n 0, 1, 0, 0, 0, .null) := by decide +kernel
theorem f113_110 : am_tab 113 110 = some (.getfield 20, 3, 9, 1, 1224, .null) := by decide +kernel
theorem f113_113 : am_tab 113 113 = some (.iload_n 1, 1, 0, 0, 0, .null) := by decide +kernel
theorem f113_114 : am_tab 113 114 = some (.invokevirtual 216, 3, 46, 2, 2200, .int 0) := by decide +kernel
theorem f113_117 : am_tab 113 117 = some (.ireturn, 1, 0, 0, 0, .null) := by decide +kernel
theorem f113_118 : am_tab 113 118 = some (.aload_n 0, 1, 0, 0, 0, .null) := by decide +kernel
theorem f113_119 : am_tab 113 119 = some (.getfield 20, 3, 9, 1, 1224, .null) := by decide +kernel
theorem f113_122 : am_tab 113 122 = some (.getfield 159, 3, 3, 7, 1051, .int 1) := by decide +kernel
theorem f113_125 : am_tab 113 125 = some (.ifCond .ne 13, 3, 138, 0, 0, .null) := by decide +kernel
theorem f113_128 : am_tab 113 128 = some (.athrow, 0, 1, 0, 4, .null) := by decide +kernel
theorem f113_138 : am_tab 113 138 = some (.aload_n 0, 1, 0, 0, 0, .null) := by decide +kernel
theorem f113_139 : am_tab 113 139 = some (.getfield 20, 3, 9, 1, 1224, .null) := by decide +kernel
theorem f113_142 : am_tab 113 142 = some (.iload_n 1, 1, 0, 0, 0, .null) := by decide +kernel
theorem f113_143 : am_tab 113 143 = some (.invokevirtual 221, 3, 47, 2, 2220, .int 0) := by decide +kernel
theorem f113_146 : am_tab 113 146 = some (.ireturn, 1, 0, 0, 0, .null) := by decide +kernel
theorem f113_147 : am_tab 113 147 = some (.athrow, 0, 0, 0, 5, .null) := by decide +kernel
theorem f114_0 : am_tab 114 0 = some (.iload_n 1, 1, 0, 0, 0, .null) := by decide +kernel
theorem f114_1 : am_tab 114 1 = some (.invokestatic 183, 3, 134, 1, 2035, .int 2) := by decide +kernel
theorem f114_4 : am_tab 114 4 = some (.ifCond .ne 13, 3, 17, 0, 0, .null) := by decide +kernel
theorem f114_7 : am_tab 114 7 = some (.athrow, 0, 2, 0, 6, .null) := by decide +kernel
theorem f114_17 : am_tab 114 17 = some (.iload_n 2, 1, 0, 0, 0, .null) := by decide +kernel
theorem f114_18 : am_tab 114 18 = some (.invokestatic 226, 3, 136, 1, 3197, .int 2) := by decide +kernel
theorem f114_21 : am_tab 114 21 = some (.ifCond .ne 13, 3, 34, 0, 0, .null) := by decide +kernel
theorem f114_24 : am_tab 114 24 = some (.athrow, 0, 0, 0, 7, .null) := by decide +kernel
theorem f114_34 : am_tab 114 34 = some (.aload_n 0, 1, 0, 0, 0, .null) := by decide +kernel
theorem f114_35 : am_tab 114 35 = some (.getfield 59, 3, 9, 8, 1231, .null) := by decide +kernel
theorem f114_38 : am_tab 114 38 = some (.aload_n 0, 1, 0, 0, 0, .null) := by decide +kernel
theorem f114_39 : am_tab 114 39 = some (.getfield 20, 3, 9, 1, 1224, .null) := by decide +kernel
theorem f114_42 : am_tab 114 42 = some (.invokevirtual 231, 3, 38, 2, 3169, .int 0) := by decide +kernel
theorem f114_45 : am_tab 114 45 = some (.aload_n 0, 1, 0, 0, 0, .null) := by decide +kernel
theorem f114_46 : am_tab 114 46 = some (.getfield 20, 3, 9, 1, 1224, .null) := by decide +kernel
theorem f114_49 : am_tab 114 49 = some (.iload_n 1, 1, 0, 0, 0, .null) := by decide +kernel
theorem f114_50 : am_tab 114 50 = some (.invokevirtual 192, 3, 43, 2, 2106, .int 0) := by decide +kernel
theorem f114_53 : am_tab 114 53 = some (.istore_n 3, 1, 0, 0, 0, .null) := by decide +kernel
theorem f114_54 : am_tab 114 54 = some (.aload_n 0, 1, 0, 0, 0, .null) := by decide +kernel
theorem f114_55 : am_tab 114 55 = some (.getfield 20, 3, 9, 1, 1224, .null) := by decide +kernel
theorem f114_58 : am_tab 114 58 = some (.iload_n 1, 1, 0, 0, 0, .null) := by decide +kernel
theorem f114_59 : am_tab 114 59 = some (.iload_n 2, 1, 0, 0, 0, .null) := by decide +kernel
theorem f114_60 : am_tab 114 60 = some (.invokevirtual 234, 3, 58, 3, 3201, .int 0) := by decide +kernel
theorem f114_63 : am_tab 114 63 = some (.iload_n 3, 1, 0, 0, 0, .null) := by decide +kernel
theorem f114_64 : am_tab 114 64 = some (.ireturn, 1, 0, 0, 0, .null) := by decide +kernel
theorem f115_0 : am_tab 115 0 = some (.iload_n 1, 1, 0, 0, 0, .null) := by decide +kernel
theorem f115_1 : am_tab 115 1 = some (.invokestatic 183, 3, 134, 1, 2035, .int 2) := by decide +kernel
theorem f115_4 : am_tab 115 4 = some (.ifCond .ne 13, 3, 17, 0, 0, .null) := by decide +kernel
theorem f115_7 : am_tab 115 7 = some (.athrow, 0, 2, 0, 8, .null) := by decide +kernel
theorem f115_17 : am_tab 115 17 = some (.aload_n 0, 1, 0, 0, 0, .null) := by decide +kernel
theorem f115_18 : am_tab 115 18 = some (.getfield 59, 3, 9, 8, 1231, .null) := by decide +kernel
theorem f115_21 : am_tab 115 21 = some (.aload_n 0, 1, 0, 0, 0, .null) := by decide +kernel
theorem f115_22 : am_tab 115 22 = some (.getfield 20, 3, 9, 1, 1224, .null) := by decide +kernel
theorem f115_25 : am_tab 115 25 = some (.invokevirtual 231, 3, 38, 2, 3169, .int 0) := by decide +kernel
theorem f115_28 : am_tab 115 28 = some (.aload_n 0, 1, 0, 0, 0, .null) := by decide +kernel
theorem f115_29 : am_tab 115 29 = some (.getfield 20, 3, 9, 1, 1224, .null) := by decide +kernel
theorem f115_32 : am_tab 115 32 = some (.iload_n 1, 1, 0, 0, 0, .null) := by decide +kernel
theorem f115_33 : am_tab 115 33 = some (.iload_n 2, 1, 0, 0, 0, .null) := by decide +kernel
theorem f115_34 : am_tab 115 34 = some (.invokevirtual 238, 3, 59, 3, 3185, .int 0) := by decide +kernel
theorem f115_37 : am_tab 115 37 = some (.aload_n 0, 1, 0, 0, 0, .null) := by decide +kernel
theorem f115_38 : am_tab 115 38 = some (.getfield 20, 3, 9, 1, 1224, .null) := by decide +kernel
theorem f115_41 : am_tab 115 41 = some (.getfield 142, 3, 3, 5, 1047, .int 1) := by decide +kernel
theorem f115_44 : am_tab 115 44 = some (.invokestatic 146, 3, 231, 1, 2153, .int 2) := by decide +kernel
theorem f115_47 : am_tab 115 47 = some (.ireturn, 1, 0, 0, 0, .null) := by decide +kernel
theorem f116_0 : am_tab 116 0 = some (.iload_n 1, 1, 0, 0, 0, .null) := by decide +kernel
theorem f116_1 : am_tab 116 1 = some (.invokestatic 242, 3, 135, 1, 3215, .int 2) := by decide +kernel
theorem f116_4 : am_tab 116 4 = some (.ifCond .ne 13, 3, 17, 0, 0, .null) := by decide +kernel
theorem f116_7 : am_tab 116 7 = some (.athrow, 0, 2, 0, 9, .null) := by decide +kernel
theorem f116_17 : am_tab 116 17 = some (.aload_n 0, 1, 0, 0, 0, .null) := by decide +kernel
theorem f116_18 : am_tab 116 18 = some (.getfield 20, 3, 9, 1, 1224, .null) := by decide +kernel
theorem f116_21 : am_tab 116 21 = some (.iload_n 1, 1, 0, 0, 0, .null) := by decide +kernel
theorem f116_22 : am_tab 116 22 = some (.iload_n 2, 1, 0, 0, 0, .null) := by decide +kernel
theorem f116_23 : am_tab 116 23 = some (.invokevirtual 247, 3, 57, 3, 3219, .int 0) := by decide +kernel
theorem f116_26 : am_tab 116 26 = some (.ifCond .ne 13, 3, 39, 0, 0, .null) := by decide +kernel
theorem f116_29 : am_tab 116 29 = some (.athrow, 0, 1, 0, 10, .null) := by decide +kernel
theorem f116_39 : am_tab 116 39 = some (.aload_n 0, 1, 0, 0, 0, .null) := by decide +kernel
theorem f116_40 : am_tab 116 40 = some (.getfield 59, 3, 9, 8, 1231, .null) := by decide +kernel
theorem f116_43 : am_tab 116 43 = some (.aload_n 0, 1, 0, 0, 0, .null) := by decide +kernel
theorem f116_44 : am_tab 116 44 = some (.getfield 20, 3, 9, 1, 1224, .null) := by decide +kernel
theorem f116_47 : am_tab 116 47 = some (.invokevirtual 231, 3, 38, 2, 3169, .int 0) := by decide +kernel
theorem f116_50 : am_tab 116 50 = some (.aload_n 0, 1, 0, 0, 0, .null) := by decide +kernel
theorem f116_51 : am_tab 116 51 = some (.getfield 20, 3, 9, 1, 1224, .null) := by decide +kernel
theorem f116_54 : am_tab 116 54 = some (.iload_n 1, 1, 0, 0, 0, .null) := by decide +kernel
theorem f116_55 : am_tab 116 55 = some (.iload_n 2, 1, 0, 0, 0, .null) := by decide +kernel
theorem f116_56 : am_tab 116 56 = some (.invokevirtual 253, 3, 61, 3, 3225, .int 0) := by decide +kernel
theorem f116_59 : am_tab 116 59 = some (.aload_n 0, 1, 0, 0, 0, .null) := by decide +kernel
theorem f116_60 : am_tab 116 60 = some (.getfield 20, 3, 9, 1, 1224, .null) := by decide +kernel
theorem f116_63 : am_tab 116 63 = some (.invokevirtual 139, 3, 48, 1, 2149, .int 0) := by decide +kernel
theorem f116_66 : am_tab 116 66 = some (.ireturn, 1, 0, 0, 0, .null) := by decide +kernel
theorem f117_0 : am_tab 117 0 = some (.iload_n 1, 1, 0, 0, 0, .null) := by decide +kernel
theorem f117_1 : am_tab 117 1 = some (.invokestatic 256, 3, 138, 1, 3140, .int 2) := by decide +kernel
theorem f117_4 : am_tab 117 4 = some (.ifCond .ne 14, 3, 18, 0, 0, .null) := by decide +kernel
theorem f117_7 : am_tab 117 7 = some (.athrow, 0, 0, 1, 11, .null) := by decide +kernel
theorem f117_18 : am_tab 117 18 = some (.aload_n 0, 1, 0, 0, 0, .null) := by decide +kernel
theorem f117_19 : am_tab 117 19 = some (.getfield 59, 3, 9, 8, 1231, .null) := by decide +kernel
theorem f117_22 : am_tab 117 22 = some (.aload_n 0, 1, 0, 0, 0, .null) := by decide +kernel
theorem f117_23 : am_tab 117 23 = some (.getfield 20, 3, 9, 1, 1224, .null) := by decide +kernel
theorem f117_26 : am_tab 117 26 = some (.invokevirtual 231, 3, 38, 2, 3169, .int 0) := by decide +kernel
theorem f117_29 : am_tab 117 29 = some (.aload_n 0, 1, 0, 0, 0, .null) := by decide +kernel
theorem f117_30 : am_tab 117 30 = some (.getfield 20, 3, 9, 1, 1224, .null) := by decide +kernel
theorem f117_33 : am_tab 117 33 = some (.aload_n 0, 1, 0, 0, 0, .null) := by decide +kernel
theorem f117_34 : am_tab 117 34 = some (.getfield 20, 3, 9, 1, 1224, .null) := by decide +kernel
theorem f117_37 : am_tab 117 37 = some (.iload_n 1, 1, 0, 0, 0, .null) := by decide +kernel
theorem f117_38 : am_tab 117 38 = some (.invokevirtual 261, 3, 68, 2, 4000, .int 0) := by decide +kernel
theorem f117_41 : am_tab 117 41 = some (.invokevirtual 265, 3, 62, 2, 4005, .int 0) := by decide +kernel
theorem f117_44 : am_tab 117 44 = some (.aload_n 0, 1, 0, 0, 0, .null) := by decide +kernel
theorem f117_45 : am_tab 117 45 = some (.getfield 20, 3, 9, 1, 1224, .null) := by decide +kernel
theorem f117_48 : am_tab 117 48 = some (.invokevirtual 139, 3, 48, 1, 2149, .int 0) := by decide +kernel
theorem f117_51 : am_tab 117 51 = some (.ireturn, 1, 0, 0, 0, .null) := by decide +kernel
theorem f118_0 : am_tab 118 0 = some (.aload_n 0, 1, 0, 0, 0, .null) := by decide +kernel
theorem f118_1 : am_tab 118 1 = some (.getfield 20, 3, 9, 1, 1224, .null) := by decide +kernel
theorem f118_4 : am_tab 118 4 = some (.iload_n 1, 1, 0, 0, 0, .null) := by decide +kernel
theorem f118_5 : am_tab 118 5 = some (.invokevirtual 208, 3, 49, 2, 2190, .int 0) := by decide +kernel
theorem f118_8 : am_tab 118 8 = some (.ifCond .ne 13, 3, 21, 0, 0, .null) := by decide +kernel
theorem f118_11 : am_tab 118 11 = some (.athrow, 0, 2, 0, 12, .null) := by decide +kernel
theorem f118_21 : am_tab 118 21 = some (.iload_n 2, 1, 0, 0, 0, .null) := by decide +kernel
theorem f118_22 : am_tab 118 22 = some (.invokestatic 269, 3, 137, 1, 4010, .int 2) := by decide +kernel
theorem f118_25 : am_tab 118 25 = some (.ifCond .ne 14, 3, 39, 0, 0, .null) := by decide +kernel
theorem f118_28 : am_tab 118 28 = some (.athrow, 0, 0, 1, 13, .null) := by decide +kernel
theorem f118_39 : am_tab 118 39 = some (.aload_n 0, 1, 0, 0, 0, .null) := by decide +kernel
theorem f118_40 : am_tab 118 40 = some (.getfield 59, 3, 9, 8, 1231, .null) := by decide +kernel
theorem f118_43 : am_tab 118 43 = some (.aload_n 0, 1, 0, 0, 0, .null) := by decide +kernel
theorem f118_44 : am_tab 118 44 = some (.getfield 20, 3, 9, 1, 1224, .null) := by decide +kernel
theorem f118_47 : am_tab 118 47 = some (.invokevirtual 231, 3, 38, 2, 3169, .int 0) := by decide +kernel
theorem f118_50 : am_tab 118 50 = some (.aload_n 0, 1, 0, 0, 0, .null) := by decide +kernel
theorem f118_51 : am_tab 118 51 = some (.getfield 20, 3, 9, 1, 1224, .null) := by decide +kernel
theorem f118_54 : am_tab 118 54 = some (.iload_n 1, 1, 0, 0, 0, .null) := by decide +kernel
theorem f118_55 : am_tab 118 55 = some (.invokevirtual 216, 3, 46, 2, 2200, .int 0) := by decide +kernel
theorem f118_58 : am_tab 118 58 = some (.istore_n 3, 1, 0, 0, 0, .null) := by decide +kernel
theorem f118_59 : am_tab 118 59 = some (.aload_n 0, 1, 0, 0, 0, .null) := by decide +kernel
theorem f118_60 : am_tab 118 60 = some (.getfield 20, 3, 9, 1, 1224, .null) := by decide +kernel
theorem f118_63 : am_tab 118 63 = some (.iload_n 1, 1, 0, 0, 0, .null) := by decide +kernel
theorem f118_64 : am_tab 118 64 = some (.iload_n 2, 1, 0, 0, 0, .null) := by decide +kernel
theorem f118_65 : am_tab 118 65 = some (.invokevirtual 274, 3, 60, 3, 4014, .int 0) := by decide +kernel
theorem f118_68 : am_tab 118 68 = some (.iload_n 3, 1, 0, 0, 0, .null) := by decide +kernel
theorem f118_69 : am_tab 118 69 = some (.ireturn, 1, 0, 0, 0, .null) := by decide +kernel
theorem f119_0 : am_tab 119 0 = some (.aload_n 0, 1, 0, 0, 0, .null) := by decide +kernel
theorem f119_1 : am_tab 119 1 = some (.getfield 59, 3, 9, 8, 1231, .null) := by decide +kernel
theorem f119_4 : am_tab 119 4 = some (.aload_n 0, 1, 0, 0, 0, .null) := by decide +kernel
theorem f119_5 : am_tab 119 5 = some (.getfield 20, 3, 9, 1, 1224, .null) := by decide +kernel
theorem f119_8 : am_tab 119 8 = some (.invokevirtual 231, 3, 38, 2, 3169, .int 0) := by decide +kernel
theorem f119_11 : am_tab 119 11 = some (.aload_n 0, 1, 0, 0, 0, .null) := by decide +kernel
theorem f119_12 : am_tab 119 12 = some (.getfield 20, 3, 9, 1, 1224, .null) := by decide +kernel
theorem f119_15 : am_tab 119 15 = some (.invokevirtual 277, 3, 63, 1, 4026, .int 0) := by decide +kernel
theorem f119_18 : am_tab 119 18 = some (.aload_n 0, 1, 0, 0, 0, .null) := by decide +kernel
theorem f119_19 : am_tab 119 19 = some (.getfield 20, 3, 9, 1, 1224, .null) := by decide +kernel
theorem f119_22 : am_tab 119 22 = some (.invokevirtual 280, 3, 55, 1, 4032, .int 0) := by decide +kernel
theorem f119_25 : am_tab 119 25 = some (.ireturn, 1, 0, 0, 0, .null) := by decide +kernel
theorem f120_0 : am_tab 120 0 = some (.iload_n 1, 1, 0, 0, 0, .null) := by decide +kernel
theorem f120_1 : am_tab 120 1 = some (.invokestatic 283, 3, 139, 1, 3036, .int 2) := by decide +kernel
theorem f120_4 : am_tab 120 4 = some (.ifCond .ne 14, 3, 18, 0, 0, .null) := by decide +kernel
theorem f120_7 : am_tab 120 7 = some (.athrow, 0, 0, 1, 14, .null) := by decide +kernel
theorem f120_18 : am_tab 120 18 = some (.aload_n 0, 1, 0, 0, 0, .null) := by decide +kernel
theorem f120_19 : am_tab 120 19 = some (.getfield 20, 3, 9, 1, 1224, .null) := by decide +kernel
theorem f120_22 : am_tab 120 22 = some (.invokevirtual 288, 3, 56, 1, 3041, .int 0) := by decide +kernel
theorem f120_25 : am_tab 120 25 = some (.ifCond .ne 13, 3, 38, 0, 0, .null) := by decide +kernel
theorem f120_28 : am_tab 120 28 = some (.athrow, 0, 1, 0, 15, .null) := by decide +kernel
theorem f120_38 : am_tab 120 38 = some (.aload_n 0, 1, 0, 0, 0, .null) := by decide +kernel
theorem f120_39 : am_tab 120 39 = some (.getfield 59, 3, 9, 8, 1231, .null) := by decide +kernel
theorem f120_42 : am_tab 120 42 = some (.aload_n 0, 1, 0, 0, 0, .null) := by decide +kernel
theorem f120_43 : am_tab 120 43 = some (.getfield 20, 3, 9, 1, 1224, .null) := by decide +kernel
theorem f120_46 : am_tab 120 46 = some (.invokevirtual 231, 3, 38, 2, 3169, .int 0) := by decide +kernel
theorem f120_49 : am_tab 120 49 = some (.aload_n 0, 1, 0, 0, 0, .null) := by decide +kernel
theorem f120_50 : am_tab 120 50 = some (.getfield 10, 3, 9, 0, 1223, .null) := by decide +kernel
theorem f120_53 : am_tab 120 53 = some (.iload_n 1, 1, 0, 0, 0, .null) := by decide +kernel
theorem f120_54 : am_tab 120 54 = some (.invokevirtual 291, 3, 35, 2, 4048, .int 0) := by decide +kernel
theorem f120_57 : am_tab 120 57 = some (.pop, 1, 0, 0, 0, .null) := by decide +kernel
theorem f120_58 : am_tab 120 58 = some (.aload_n 0, 1, 0, 0, 0, .null) := by decide +kernel
theorem f120_59 : am_tab 120 59 = some (.getfield 10, 3, 9, 0, 1223, .null) := by decide +kernel
theorem f120_62 : am_tab 120 62 = some (.getfield 294, 3, 1, 1, 1123, .int 1) := by decide +kernel
theorem f120_65 : am_tab 120 65 = some (.getfield 295, 3, 5, 2, 1107, .int 1) := by decide +kernel
theorem f120_68 : am_tab 120 68 = some (.ireturn, 1, 0, 0, 0, .null) := by decide +kernel
theorem f121_0 : am_tab 121 0 = some (.iload_n 1, 1, 0, 0, 0, .null) := by decide +kernel
theorem f121_1 : am_tab 121 1 = some (.ifCond .eq 19, 3, 20, 0, 0, .null) := by decide +kernel
theorem f121_4 : am_tab 121 4 = some (.iload_n 1, 1, 0, 0, 0, .null) := by decide +kernel
theorem f121_5 : am_tab 121 5 = some (.iconst 1, 1, 0, 0, 0, .null) := by decide +kernel
theorem f121_6 : am_tab 121 6 = some (.if_icmp .eq 14, 3, 20, 0, 0, .null) := by decide +kernel
theorem f121_9 : am_tab 121 9 = some (.athrow, 0, 0, 1, 16, .null) := by decide +kernel
theorem f121_20 : am_tab 121 20 = some (.aload_n 0, 1, 0, 0, 0, .null) := by decide +kernel
theorem f121_21 : am_tab 121 21 = some (.getfield 59, 3, 9, 8, 1231, .null) := by decide +kernel
theorem f121_24 : am_tab 121 24 = some (.aload_n 0, 1, 0, 0, 0, .null) := by decide +kernel
theorem f121_25 : am_tab 121 25 = some (.getfield 20, 3, 9, 1, 1224, .null) := by decide +kernel
theorem f121_28 : am_tab 121 28 = some (.invokevirtual 231, 3, 38, 2, 3169, .int 0) := by decide +kernel
theorem f121_31 : am_tab 121 31 = some (.aload_n 0, 1, 0, 0, 0, .null) := by decide +kernel
theorem f121_32 : am_tab 121 32 = some (.getfield 20, 3, 9, 1, 1224, .null) := by decide +kernel
theorem f121_35 : am_tab 121 35 = some (.getfield 175, 3, 3, 8, 1054, .int 1) := by decide +kernel
theorem f121_38 : am_tab 121 38 = some (.istore_n 2, 1, 0, 0, 0, .null) := by decide +kernel
theorem f121_39 : am_tab 121 39 = some (.aload_n 0, 1, 0, 0, 0, .null) := by decide +kernel
theorem f121_40 : am_tab 121 40 = some (.getfield 20, 3, 9, 1, 1224, .null) := by decide +kernel
theorem f121_43 : am_tab 121 43 = some (.iload_n 1, 1, 0, 0, 0, .null) := by decide +kernel
theorem f121_44 : am_tab 121 44 = some (.putfield 175, 3, 3, 8, 1054, .int 1) := by decide +kernel
theorem f121_47 : am_tab 121 47 = some (.iload_n 2, 1, 0, 0, 0, .null) := by decide +kernel
theorem f121_48 : am_tab 121 48 = some (.ireturn, 1, 0, 0, 0, .null) := by decide +kernel
theorem f123_0 : am_tab 123 0 = some (.iload_n 1, 1, 0, 0, 0, .null) := by decide +kernel
theorem f123_1 : am_tab 123 1 = some (.invokestatic 283, 3, 139, 1, 3036, .int 2) := by decide +kernel
theorem f123_4 : am_tab 123 4 = some (.ifCond .ne 14, 3, 18, 0, 0, .null) := by decide +kernel
theorem f123_7 : am_tab 123 7 = some (.athrow, 0, 0, 1, 17, .null) := by decide +kernel
theorem f123_18 : am_tab 123 18 = some (.iload_n 2, 1, 0, 0, 0, .null) := by decide +kernel
theorem f123_19 : am_tab 123 19 = some (.ifCond .lt 8, 3, 27, 0, 0, .null) := by decide +kernel
theorem f123_22 : am_tab 123 22 = some (.iload_n 2, 1, 0, 0, 0, .null) := by decide +kernel
theorem f123_23 : am_tab 123 23 = some (.iconst 3, 1, 0, 0, 0, .null) := by decide +kernel
theorem f123_24 : am_tab 123 24 = some (.if_icmp .le 14, 3, 38, 0, 0, .null) := by decide +kernel
theorem f123_27 : am_tab 123 27 = some (.athrow, 0, 0, 1, 18, .null) := by decide +kernel
theorem f123_38 : am_tab 123 38 = some (.aload_n 0, 1, 0, 0, 0, .null) := by decide +kernel
theorem f123_39 : am_tab 123 39 = some (.getfield 20, 3, 9, 1, 1224, .null) := by decide +kernel
theorem f123_42 : am_tab 123 42 = some (.invokevirtual 288, 3, 56, 1, 3041, .int 0) := by decide +kernel
theorem f123_45 : am_tab 123 45 = some (.ifCond .ne 13, 3, 58, 0, 0, .null) := by decide +kernel
theorem f123_48 : am_tab 123 48 = some (.athrow, 0, 1, 0, 19, .null) := by decide +kernel
theorem f123_58 : am_tab 123 58 = some (.aload_n 0, 1, 0, 0, 0, .null) := by decide +kernel
theorem f123_59 : am_tab 123 59 = some (.getfield 38, 3, 9, 5, 1228, .null) := by decide +kernel
theorem f123_62 : am_tab 123 62 = some (.aload_n 0, 1, 0, 0, 0, .null) := by decide +kernel
theorem f123_63 : am_tab 123 63 = some (.getfield 20, 3, 9, 1, 1224, .null) := by decide +kernel
theorem f123_66 : am_tab 123 66 = some (.iload_n 1, 1, 0, 0, 0, .null) := by decide +kernel
theorem f123_67 : am_tab 123 67 = some (.invokevirtual 310, 3, 81, 3, 3045, .int 0) := by decide +kernel
theorem f123_70 : am_tab 123 70 = some (.iload_n 2, 1, 0, 0, 0, .null) := by decide +kernel
theorem f123_71 : am_tab 123 71 = some (.tableswitch 67 0 2 #[25, 33, 44], 25, 0, 0, 0, .null) := by decide +kernel
theorem f123_96 : am_tab 123 96 = some (.aload_n 0, 1, 0, 0, 0, .null) := by decide +kernel
theorem f123_97 : am_tab 123 97 = some (.getfield 38, 3, 9, 5, 1228, .null) := by decide +kernel
theorem f123_100 : am_tab 123 100 = some (.getfield 295, 3, 5, 2, 1107, .int 1) := by decide +kernel
theorem f123_103 : am_tab 123 103 = some (.ireturn, 1, 0, 0, 0, .null) := by decide +kernel
theorem f123_104 : am_tab 123 104 = some (.aload_n 0, 1, 0, 0, 0, .null) := by decide +kernel
theorem f123_105 : am_tab 123 105 = some (.getfield 38, 3, 9, 5, 1228, .null) := by decide +kernel
theorem f123_108 : am_tab 123 108 = some (.getfield 314, 3, 5, 3, 1110, .int 1) := by decide +kernel
theorem f123_111 : am_tab 123 111 = some (.invokestatic 146, 3, 231, 1, 2153, .int 2) := by decide +kernel
theorem f123_114 : am_tab 123 114 = some (.ireturn, 1, 0, 0, 0, .null) := by decide +kernel
theorem f123_115 : am_tab 123 115 = some (.aload_n 0, 1, 0, 0, 0, .null) := by decide +kernel
theorem f123_116 : am_tab 123 116 = some (.getfield 38, 3, 9, 5, 1228, .null) := by decide +kernel
theorem f123_119 : am_tab 123 119 = some (.getfield 314, 3, 5, 3, 1110, .int 1) := by decide +kernel
theorem f123_122 : am_tab 123 122 = some (.aload_n 0, 1, 0, 0, 0, .null) := by decide +kernel
theorem f123_123 : am_tab 123 123 = some (.getfield 20, 3, 9, 1, 1224, .null) := by decide +kernel
theorem f123_126 : am_tab 123 126 = some (.getfield 142, 3, 3, 5, 1047, .int 1) := by decide +kernel
theorem f123_129 : am_tab 123 129 = some (.ldc2_w 317, 3, 0, 0, 3079, .long (-1)) := by decide +kernel
theorem f123_132 : am_tab 123 132 = some (.lxor, 1, 0, 0, 0, .null) := by decide +kernel
theorem f123_133 : am_tab 123 133 = some (.land, 1, 0, 0, 0, .null) := by decide +kernel
theorem f123_134 : am_tab 123 134 = some (.invokestatic 146, 3, 231, 1, 2153, .int 2) := by decide +kernel
theorem f123_137 : am_tab 123 137 = some (.ireturn, 1, 0, 0, 0, .null) := by decide +kernel
theorem f123_138 : am_tab 123 138 = some (.aload_n 0, 1, 0, 0, 0, .null) := by decide +kernel
theorem f123_139 : am_tab 123 139 = some (.getfield 20, 3, 9, 1, 1224, .null) := by decide +kernel
theorem f123_142 : am_tab 123 142 = some (.getfield 142, 3, 3, 5, 1047, .int 1) := by decide +kernel
theorem f123_145 : am_tab 123 145 = some (.aload_n 0, 1, 0, 0, 0, .null) := by decide +kernel
theorem f123_146 : am_tab 123 146 = some (.getfield 38, 3, 9, 5, 1228, .null) := by decide +kernel
theorem f123_149 : am_tab 123 149 = some (.getfield 314, 3, 5, 3, 1110, .int 1) := by decide +kernel
theorem f123_152 : am_tab 123 152 = some (.ldc2_w 317, 3, 0, 0, 3079, .long (-1)) := by decide +kernel
theorem f123_155 : am_tab 123 155 = some (.lxor, 1, 0, 0, 0, .null) := by decide +kernel
theorem f123_156 : am_tab 123 156 = some (.land, 1, 0, 0, 0, .null) := by decide +kernel
theorem f123_157 : am_tab 123 157 = some (.invokestatic 146, 3, 231, 1, 2153, .int 2) := by decide +kernel
theorem f123_160 : am_tab 123 160 = some (.ireturn, 1, 0, 0, 0, .null) := by decide +kernel
theorem f124_0 : am_tab 124 0 = some (.aload_n 0, 1, 0, 0, 0, .null) := by decide +kernel
theorem f124_1 : am_tab 124 1 = some (.getfield 20, 3, 9, 1, 1224, .null) := by decide +kernel
theorem f124_4 : am_tab 124 4 = some (.invokevirtual 288, 3, 56, 1, 3041, .int 0) := by decide +kernel
theorem f124_7 : am_tab 124 7 = some (.ifCond .ne 5, 3, 12, 0, 0, .null) := by decide +kernel
theorem f124_10 : am_tab 124 10 = some (.iconst (-1), 1, 0, 0, 0, .null) := by decide +kernel
theorem f124_11 : am_tab 124 11 = some (.ireturn, 1, 0, 0, 0, .null) := by decide +kernel
theorem f124_12 : am_tab 124 12 = some (.iconst (-1), 1, 0, 0, 0, .null) := by decide +kernel
theorem f124_13 : am_tab 124 13 = some (.istore_n 1, 1, 0, 0, 0, .null) := by decide +kernel
theorem f124_14 : am_tab 124 14 = some (.iconst 0, 1, 0, 0, 0, .null) := by decide +kernel
theorem f124_15 : am_tab 124 15 = some (.istore_n 2, 1, 0, 0, 0, .null) := by decide +kernel
theorem f124_16 : am_tab 124 16 = some (.iconst 0, 1, 0, 0, 0, .null) := by decide +kernel
theorem f124_17 : am_tab 124 17 = some (.istore_n 3, 1, 0, 0, 0, .null) := by decide +kernel
theorem f124_18 : am_tab 124 18 = some (.iload_n 3, 1, 0, 0, 0, .null) := by decide +kernel
theorem f124_19 : am_tab 124 19 = some (.iconst 3, 1, 0, 0, 0, .null) := by decide +kernel
theorem f124_20 : am_tab 124 20 = some (.if_icmp .ge 47, 3, 67, 0, 0, .null) := by decide +kernel
theorem f124_23 : am_tab 124 23 = some (.aload_n 0, 1, 0, 0, 0, .null) := by decide +kernel
theorem f124_24 : am_tab 124 24 = some (.getfield 38, 3, 9, 5, 1228, .null) := by decide +kernel
theorem f124_27 : am_tab 124 27 = some (.aload_n 0, 1, 0, 0, 0, .null) := by decide +kernel
theorem f124_28 : am_tab 124 28 = some (.getfield 20, 3, 9, 1, 1224, .null) := by decide +kernel
theorem f124_31 : am_tab 124 31 = some (.iload_n 3, 1, 0, 0, 0, .null) := by decide +kernel
theorem f124_32 : am_tab 124 32 = some (.invokevirtual 310, 3, 81, 3, 3045, .int 0) := by decide +kernel
theorem f124_35 : am_tab 124 35 = some (.iload_n 1, 1, 0, 0, 0, .null) := by decide +kernel
theorem f124_36 : am_tab 124 36 = some (.iconst (-1), 1, 0, 0, 0, .null) := by decide +kernel
theorem f124_37 : am_tab 124 37 = some (.if_icmp .eq 14, 3, 51, 0, 0, .null) := by decide +kernel
theorem f124_40 : am_tab 124 40 = some (.aload_n 0, 1, 0, 0, 0, .null) := by decide +kernel
theorem f124_41 : am_tab 124 41 = some (.getfield 38, 3, 9, 5, 1228, .null) := by decide +kernel
theorem f124_44 : am_tab 124 44 = some (.getfield 295, 3, 5, 2, 1107, .int 1) := by decide +kernel
theorem f124_47 : am_tab 124 47 = some (.iload_n 2, 1, 0, 0, 0, .null) := by decide +kernel
theorem f124_48 : am_tab 124 48 = some (.if_icmp .ge 13, 3, 61, 0, 0, .null) := by decide +kernel
theorem f124_51 : am_tab 124 51 = some (.iload_n 3, 1, 0, 0, 0, .null) := by decide +kernel
theorem f124_52 : am_tab 124 52 = some (.istore_n 1, 1, 0, 0, 0, .null) := by decide +kernel
theorem f124_53 : am_tab 124 53 = some (.aload_n 0, 1, 0, 0, 0, .null) := by decide +kernel
theorem f124_54 : am_tab 124 54 = some (.getfield 38, 3, 9, 5, 1228, .null) := by decide +kernel
theorem f124_57 : am_tab 124 57 = some (.getfield 295, 3, 5, 2, 1107, .int 1) := by decide +kernel
theorem f124_60 : am_tab 124 60 = some (.istore_n 2, 1, 0, 0, 0, .null) := by decide +kernel
theorem f124_61 : am_tab 124 61 = some (.iinc 3 1, 3, 0, 0, 0, .null) := by decide +kernel
theorem f124_64 : am_tab 124 64 = some (.goto (-46), 3, 18, 0, 0, .null) := by decide +kernel
theorem f124_67 : am_tab 124 67 = some (.iload_n 1, 1, 0, 0, 0, .null) := by decide +kernel
theorem f124_68 : am_tab 124 68 = some (.ireturn, 1, 0, 0, 0, .null) := by decide +kernel
theorem f125_0 : am_tab 125 0 = some (.aload_n 0, 1, 0, 0, 0, .null) := by decide +kernel
theorem f125_1 : am_tab 125 1 = some (.getfield 20, 3, 9, 1, 1224, .null) := by decide +kernel
theorem f125_4 : am_tab 125 4 = some (.iload_n 1, 1, 0, 0, 0, .null) := by decide +kernel
theorem f125_5 : am_tab 125 5 = some (.invokevirtual 208, 3, 49, 2, 2190, .int 0) := by decide +kernel
theorem f125_8 : am_tab 125 8 = some (.ifCond .ne 13, 3, 21, 0, 0, .null) := by decide +kernel
theorem f125_11 : am_tab 125 11 = some (.athrow, 0, 2, 0, 20, .null) := by decide +kernel
theorem f125_21 : am_tab 125 21 = some (.iload_n 2, 1, 0, 0, 0, .null) := by decide +kernel
theorem f125_22 : am_tab 125 22 = some (.invokestatic 283, 3, 139, 1, 3036, .int 2) := by decide +kernel
theorem f125_25 : am_tab 125 25 = some (.ifCond .ne 14, 3, 39, 0, 0, .null) := by decide +kernel
theorem f125_28 : am_tab 125 28 = some (.athrow, 0, 0, 1, 21, .null) := by decide +kernel
theorem f125_39 : am_tab 125 39 = some (.iload_n 3, 1, 0, 0, 0, .null) := by decide +kernel
theorem f125_40 : am_tab 125 40 = some (.ifCond .eq 19, 3, 59, 0, 0, .null) := by decide +kernel
theorem f125_43 : am_tab 125 43 = some (.iload_n 3, 1, 0, 0, 0, .null) := by decide +kernel
theorem f125_44 : am_tab 125 44 = some (.iconst 1, 1, 0, 0, 0, .null) := by decide +kernel
theorem f125_45 : am_tab 125 45 = some (.if_icmp .eq 14, 3, 59, 0, 0, .null) := by decide +kernel
theorem f125_48 : am_tab 125 48 = some (.athrow, 0, 0, 1, 22, .null) := by decide +kernel
theorem f125_59 : am_tab 125 59 = some (.aload_n 0, 1, 0, 0, 0, .null) := by decide +kernel
theorem f125_60 : am_tab 125 60 = some (.getfield 45, 3, 9, 6, 1229, .null) := by decide +kernel
theorem f125_63 : am_tab 125 63 = some (.aload_n 0, 1, 0, 0, 0, .null) := by decide +kernel
theorem f125_64 : am_tab 125 64 = some (.getfield 20, 3, 9, 1, 1224, .null) := by decide +kernel
theorem f125_67 : am_tab 125 67 = some (.iload_n 1, 1, 0, 0, 0, .null) := by decide +kernel
theorem f125_68 : am_tab 125 68 = some (.iload_n 2, 1, 0, 0, 0, .null) := by decide +kernel
theorem f125_69 : am_tab 125 69 = some (.invokevirtual 321, 3, 70, 4, 3092, .int 0) := by decide +kernel
theorem f125_72 : am_tab 125 72 = some (.iload_n 3, 1, 0, 0, 0, .null) := by decide +kernel
theorem f125_73 : am_tab 125 73 = some (.ifCond .ne 13, 3, 86, 0, 0, .null) := by decide +kernel
theorem f125_76 : am_tab 125 76 = some (.aload_n 0, 1, 0, 0, 0, .null) := by decide +kernel
theorem f125_77 : am_tab 125 77 = some (.getfield 45, 3, 9, 6, 1229, .null) := by decide +kernel
theorem f125_80 : am_tab 125 80 = some (.getfield 325, 3, 4, 2, 1144, .int 1) := by decide +kernel
theorem f125_83 : am_tab 125 83 = some (.goto 10, 3, 93, 0, 0, .null) := by decide +kernel
theorem f125_86 : am_tab 125 86 = some (.aload_n 0, 1, 0, 0, 0, .null) := by decide +kernel
theorem f125_87 : am_tab 125 87 = some (.getfield 45, 3, 9, 6, 1229, .null) := by decide +kernel
theorem f125_90 : am_tab 125 90 = some (.getfield 328, 3, 4, 3, 1146, .int 1) := by decide +kernel
theorem f125_93 : am_tab 125 93 = some (.ireturn, 1, 0, 0, 0, .null) := by decide +kernel
theorem f126_0 : am_tab 126 0 = some (.aload_n 0, 1, 0, 0, 0, .null) := by decide +kernel
theorem f126_1 : am_tab 126 1 = some (.getfield 20, 3, 9, 1, 1224, .null) := by decide +kernel
theorem f126_4 : am_tab 126 4 = some (.iload_n 1, 1, 0, 0, 0, .null) := by decide +kernel
theorem f126_5 : am_tab 126 5 = some (.invokevirtual 208, 3, 49, 2, 2190, .int 0) := by decide +kernel
theorem f126_8 : am_tab 126 8 = some (.ifCond .ne 13, 3, 21, 0, 0, .null) := by decide +kernel
theorem f126_11 : am_tab 126 11 = some (.athrow, 0, 2, 0, 23, .null) := by decide +kernel
theorem f126_21 : am_tab 126 21 = some (.aload_n 0, 1, 0, 0, 0, .null) := by decide +kernel
theorem f126_22 : am_tab 126 22 = some (.getfield 45, 3, 9, 6, 1229, .null) := by decide +kernel
theorem f126_25 : am_tab 126 25 = some (.aload_n 0, 1, 0, 0, 0, .null) := by decide +kernel
theorem f126_26 : am_tab 126 26 = some (.getfield 20, 3, 9, 1, 1224, .null) := by decide +kernel
theorem f126_29 : am_tab 126 29 = some (.iload_n 1, 1, 0, 0, 0, .null) := by decide +kernel
theorem f126_30 : am_tab 126 30 = some (.invokevirtual 331, 3, 72, 3, 3109, .int 0) := by decide +kernel
theorem f126_33 : am_tab 126 33 = some (.ireturn, 1, 0, 0, 0, .null) := by decide +kernel
theorem f127_0 : am_tab 127 0 = some (.iload_n 1, 1, 0, 0, 0, .null) := by decide +kernel
theorem f127_1 : am_tab 127 1 = some (.invokestatic 256, 3, 138, 1, 3140, .int 2) := by decide +kernel
theorem f127_4 : am_tab 127 4 = some (.ifCond .ne 14, 3, 18, 0, 0, .null) := by decide +kernel
theorem f127_7 : am_tab 127 7 = some (.athrow, 0, 0, 1, 24, .null) := by decide +kernel
theorem f127_18 : am_tab 127 18 = some (.aload_n 0, 1, 0, 0, 0, .null) := by decide +kernel
theorem f127_19 : am_tab 127 19 = some (.getfield 20, 3, 9, 1, 1224, .null) := by decide +kernel
theorem f127_22 : am_tab 127 22 = some (.iload_n 1, 1, 0, 0, 0, .null) := by decide +kernel
theorem f127_23 : am_tab 127 23 = some (.invokevirtual 335, 3, 65, 2, 3144, .int 0) := by decide +kernel
theorem f127_26 : am_tab 127 26 = some (.ireturn, 1, 0, 0, 0, .null) := by decide +kernel
theorem f128_0 : am_tab 128 0 = some (.aload_n 0, 1, 0, 0, 0, .null) := by decide +kernel
theorem f128_1 : am_tab 128 1 = some (.getfield 20, 3, 9, 1, 1224, .null) := by decide +kernel
theorem f128_4 : am_tab 128 4 = some (.iload_n 1, 1, 0, 0, 0, .null) := by decide +kernel
theorem f128_5 : am_tab 128 5 = some (.invokevirtual 208, 3, 49, 2, 2190, .int 0) := by decide +kernel
theorem f128_8 : am_tab 128 8 = some (.ifCond .ne 13, 3, 21, 0, 0, .null) := by decide +kernel
theorem f128_11 : am_tab 128 11 = some (.athrow, 0, 2, 0, 25, .null) := by decide +kernel
theorem f128_21 : am_tab 128 21 = some (.aload_n 0, 1, 0, 0, 0, .null) := by decide +kernel
theorem f128_22 : am_tab 128 22 = some (.getfield 20, 3, 9, 1, 1224, .null) := by decide +kernel
theorem f128_25 : am_tab 128 25 = some (.getfield 159, 3, 3, 7, 1051, .int 1) := by decide +kernel
theorem f128_28 : am_tab 128 28 = some (.ifCond .ne 13, 3, 41, 0, 0, .null) := by decide +kernel
theorem f128_31 : am_tab 128 31 = some (.athrow, 0, 1, 0, 26, .null) := by decide +kernel
theorem f128_41 : am_tab 128 41 = some (.aload_n 0, 1, 0, 0, 0, .null) := by decide +kernel
theorem f128_42 : am_tab 128 42 = some (.getfield 52, 3, 9, 7, 1230, .null) := by decide +kernel
theorem f128_45 : am_tab 128 45 = some (.aload_n 0, 1, 0, 0, 0, .null) := by decide +kernel
theorem f128_46 : am_tab 128 46 = some (.getfield 20, 3, 9, 1, 1224, .null) := by decide +kernel
theorem f128_49 : am_tab 128 49 = some (.iload_n 1, 1, 0, 0, 0, .null) := by decide +kernel
theorem f128_50 : am_tab 128 50 = some (.aload_n 0, 1, 0, 0, 0, .null) := by decide +kernel
theorem f128_51 : am_tab 128 51 = some (.getfield 20, 3, 9, 1, 1224, .null) := by decide +kernel
theorem f128_54 : am_tab 128 54 = some (.iload_n 1, 1, 0, 0, 0, .null) := by decide +kernel
theorem f128_55 : am_tab 128 55 = some (.invokevirtual 221, 3, 47, 2, 2220, .int 0) := by decide +kernel
theorem f128_58 : am_tab 128 58 = some (.invokevirtual 338, 3, 92, 4, 2232, .int 0) := by decide +kernel
theorem f128_61 : am_tab 128 61 = some (.ifCond .eq 7, 3, 68, 0, 0, .null) := by decide +kernel
theorem f128_64 : am_tab 128 64 = some (.iconst 1, 1, 0, 0, 0, .null) := by decide +kernel
theorem f128_65 : am_tab 128 65 = some (.goto 4, 3, 69, 0, 0, .null) := by decide +kernel
theorem f128_68 : am_tab 128 68 = some (.iconst 0, 1, 0, 0, 0, .null) := by decide +kernel
theorem f128_69 : am_tab 128 69 = some (.ireturn, 1, 0, 0, 0, .null) := by decide +kernel
theorem f129_0 : am_tab 129 0 = some (.aload_n 0, 1, 0, 0, 0, .null) := by decide +kernel
theorem f129_1 : am_tab 129 1 = some (.getfield 20, 3, 9, 1, 1224, .null) := by decide +kernel
theorem f129_4 : am_tab 129 4 = some (.getfield 159, 3, 3, 7, 1051, .int 1) := by decide +kernel
theorem f129_7 : am_tab 129 7 = some (.ifCond .ne 5, 3, 12, 0, 0, .null) := by decide +kernel
theorem f129_10 : am_tab 129 10 = some (.iconst (-1), 1, 0, 0, 0, .null) := by decide +kernel
theorem f129_11 : am_tab 129 11 = some (.ireturn, 1, 0, 0, 0, .null) := by decide +kernel
theorem f129_12 : am_tab 129 12 = some (.aload_n 0, 1, 0, 0, 0, .null) := by decide +kernel
theorem f129_13 : am_tab 129 13 = some (.getfield 20, 3, 9, 1, 1224, .null) := by decide +kernel
theorem f129_16 : am_tab 129 16 = some (.invokevirtual 139, 3, 48, 1, 2149, .int 0) := by decide +kernel
theorem f129_19 : am_tab 129 19 = some (.istore_n 1, 1, 0, 0, 0, .null) := by decide +kernel
theorem f129_20 : am_tab 129 20 = some (.iconst (-1), 1, 0, 0, 0, .null) := by decide +kernel
theorem f129_21 : am_tab 129 21 = some (.istore_n 2, 1, 0, 0, 0, .null) := by decide +kernel
theorem f129_22 : am_tab 129 22 = some (.iconst 0, 1, 0, 0, 0, .null) := by decide +kernel
theorem f129_23 : am_tab 129 23 = some (.istore_n 3, 1, 0, 0, 0, .null) := by decide +kernel
theorem f129_24 : am_tab 129 24 = some (.iconst 0, 1, 0, 0, 0, .null) := by decide +kernel
theorem f129_25 : am_tab 129 25 = some (.istore 4, 2, 0, 0, 0, .null) := by decide +kernel
theorem f129_27 : am_tab 129 27 = some (.iload 4, 2, 0, 0, 0, .null) := by decide +kernel
theorem f129_29 : am_tab 129 29 = some (.iload_n 1, 1, 0, 0, 0, .null) := by decide +kernel
theorem f129_30 : am_tab 129 30 = some (.if_icmp .ge 63, 3, 93, 0, 0, .null) := by decide +kernel
theorem f129_33 : am_tab 129 33 = some (.aload_n 0, 1, 0, 0, 0, .null) := by decide +kernel
theorem f129_34 : am_tab 129 34 = some (.getfield 20, 3, 9, 1, 1224, .null) := by decide +kernel
theorem f129_37 : am_tab 129 37 = some (.iload 4, 2, 0, 0, 0, .null) := by decide +kernel
theorem f129_39 : am_tab 129 39 = some (.invokevirtual 221, 3, 47, 2, 2220, .int 0) := by decide +kernel
theorem f129_42 : am_tab 129 42 = some (.aload_n 0, 1, 0, 0, 0, .null) := by decide +kernel
theorem f129_43 : am_tab 129 43 = some (.getfield 20, 3, 9, 1, 1224, .null) := by decide +kernel
theorem f129_46 : am_tab 129 46 = some (.aload_n 0, 1, 0, 0, 0, .null) := by decide +kernel
theorem f129_47 : am_tab 129 47 = some (.getfield 20, 3, 9, 1, 1224, .null) := by decide +kernel
theorem f129_50 : am_tab 129 50 = some (.iload 4, 2, 0, 0, 0, .null) := by decide +kernel
theorem f129_52 : am_tab 129 52 = some (.invokevirtual 213, 3, 50, 2, 2196, .int 0) := by decide +kernel
theorem f129_55 : am_tab 129 55 = some (.aload_n 0, 1, 0, 0, 0, .null) := by decide +kernel
theorem f129_56 : am_tab 129 56 = some (.getfield 20, 3, 9, 1, 1224, .null) := by decide +kernel
theorem f129_59 : am_tab 129 59 = some (.iload 4, 2, 0, 0, 0, .null) := by decide +kernel
theorem f129_61 : am_tab 129 61 = some (.iconst 1, 1, 0, 0, 0, .null) := by decide +kernel
theorem f129_62 : am_tab 129 62 = some (.iadd, 1, 0, 0, 0, .null) := by decide +kernel
theorem f129_63 : am_tab 129 63 = some (.invokevirtual 213, 3, 50, 2, 2196, .int 0) := by decide +kernel
theorem f129_66 : am_tab 129 66 = some (.invokevirtual 156, 3, 53, 3, 2164, .int 0) := by decide +kernel
theorem f129_69 : am_tab 129 69 = some (.isub, 1, 0, 0, 0, .null) := by decide +kernel
theorem f129_70 : am_tab 129 70 = some (.invokestatic 342, 3, 0, 0, 3011, .int 12) := by decide +kernel
theorem f129_73 : am_tab 129 73 = some (.istore 5, 2, 0, 0, 0, .null) := by decide +kernel
theorem f129_75 : am_tab 129 75 = some (.iload 5, 2, 0, 0, 0, .null) := by decide +kernel
theorem f129_77 : am_tab 129 77 = some (.iload_n 3, 1, 0, 0, 0, .null) := by decide +kernel
theorem f129_78 : am_tab 129 78 = some (.if_icmp .le 9, 3, 87, 0, 0, .null) := by decide +kernel
theorem f129_81 : am_tab 129 81 = some (.iload 4, 2, 0, 0, 0, .null) := by decide +kernel
theorem f129_83 : am_tab 129 83 = some (.istore_n 2, 1, 0, 0, 0, .null) := by decide +kernel
theorem f129_84 : am_tab 129 84 = some (.iload 5, 2, 0, 0, 0, .null) := by decide +kernel
theorem f129_86 : am_tab 129 86 = some (.istore_n 3, 1, 0, 0, 0, .null) := by decide +kernel
theorem f129_87 : am_tab 129 87 = some (.iinc 4 1, 3, 0, 0, 0, .null) := by decide +kernel
theorem f129_90 : am_tab 129 90 = some (.goto (-63), 3, 27, 0, 0, .null) := by decide +kernel
theorem f129_93 : am_tab 129 93 = some (.iload_n 2, 1, 0, 0, 0, .null) := by decide +kernel
theorem f129_94 : am_tab 129 94 = some (.ireturn, 1, 0, 0, 0, .null) := by decide +kernel
theorem f134_0 : am_tab 134 0 = some (.iload_n 0, 1, 0, 0, 0, .null) := by decide +kernel
theorem f134_1 : am_tab 134 1 = some (.ifCond .lt 13, 3, 14, 0, 0, .null) := by decide +kernel
theorem f134_4 : am_tab 134 4 = some (.iload_n 0, 1, 0, 0, 0, .null) := by decide +kernel
theorem f134_5 : am_tab 134 5 = some (.bipush 48, 2, 0, 0, 0, .null) := by decide +kernel
theorem f134_7 : am_tab 134 7 = some (.if_icmp .ge 7, 3, 14, 0, 0, .null) := by decide +kernel
theorem f134_10 : am_tab 134 10 = some (.iconst 1, 1, 0, 0, 0, .null) := by decide +kernel
theorem f134_11 : am_tab 134 11 = some (.goto 4, 3, 15, 0, 0, .null) := by decide +kernel
theorem f134_14 : am_tab 134 14 = some (.iconst 0, 1, 0, 0, 0, .null) := by decide +kernel
theorem f134_15 : am_tab 134 15 = some (.ireturn, 1, 0, 0, 0, .null) := by decide +kernel
theorem f135_0 : am_tab 135 0 = some (.iload_n 0, 1, 0, 0, 0, .null) := by decide +kernel
theorem f135_1 : am_tab 135 1 = some (.iconst 1, 1, 0, 0, 0, .null) := by decide +kernel
theorem f135_2 : am_tab 135 2 = some (.if_icmp .lt 13, 3, 15, 0, 0, .null) := by decide +kernel
theorem f135_5 : am_tab 135 5 = some (.iload_n 0, 1, 0, 0, 0, .null) := by decide +kernel
theorem f135_6 : am_tab 135 6 = some (.bipush 48, 2, 0, 0, 0, .null) := by decide +kernel
theorem f135_8 : am_tab 135 8 = some (.if_icmp .ge 7, 3, 15, 0, 0, .null) := by decide +kernel
theorem f135_11 : am_tab 135 11 = some (.iconst 1, 1, 0, 0, 0, .null) := by decide +kernel
theorem f135_12 : am_tab 135 12 = some (.goto 4, 3, 16, 0, 0, .null) := by decide +kernel
theorem f135_15 : am_tab 135 15 = some (.iconst 0, 1, 0, 0, 0, .null) := by decide +kernel
theorem f135_16 : am_tab 135 16 = some (.ireturn, 1, 0, 0, 0, .null) := by decide +kernel
theorem f136_0 : am_tab 136 0 = some (.iload_n 0, 1, 0, 0, 0, .null) := by decide +kernel
theorem f136_1 : am_tab 136 1 = some (.iconst 1, 1, 0, 0, 0, .null) := by decide +kernel
theorem f136_2 : am_tab 136 2 = some (.if_icmp .lt 13, 3, 15, 0, 0, .null) := by decide +kernel
theorem f136_5 : am_tab 136 5 = some (.iload_n 0, 1, 0, 0, 0, .null) := by decide +kernel
theorem f136_6 : am_tab 136 6 = some (.bipush 99, 2, 0, 0, 0, .null) := by decide +kernel
theorem f136_8 : am_tab 136 8 = some (.if_icmp .gt 7, 3, 15, 0, 0, .null) := by decide +kernel
theorem f136_11 : am_tab 136 11 = some (.iconst 1, 1, 0, 0, 0, .null) := by decide +kernel
theorem f136_12 : am_tab 136 12 = some (.goto 4, 3, 16, 0, 0, .null) := by decide +kernel
theorem f136_15 : am_tab 136 15 = some (.iconst 0, 1, 0, 0, 0, .null) := by decide +kernel
theorem f136_16 : am_tab 136 16 = some (.ireturn, 1, 0, 0, 0, .null) := by decide +kernel
theorem f137_0 : am_tab 137 0 = some (.iload_n 0, 1, 0, 0, 0, .null) := by decide +kernel
theorem f137_1 : am_tab 137 1 = some (.bipush (-2), 2, 0, 0, 0, .null) := by decide +kernel
theorem f137_3 : am_tab 137 3 = some (.if_icmp .lt 12, 3, 15, 0, 0, .null) := by decide +kernel
theorem f137_6 : am_tab 137 6 = some (.iload_n 0, 1, 0, 0, 0, .null) := by decide +kernel
theorem f137_7 : am_tab 137 7 = some (.iconst 2, 1, 0, 0, 0, .null) := by decide +kernel
theorem f137_8 : am_tab 137 8 = some (.if_icmp .gt 7, 3, 15, 0, 0, .null) := by decide +kernel
theorem f137_11 : am_tab 137 11 = some (.iconst 1, 1, 0, 0, 0, .null) := by decide +kernel
theorem f137_12 : am_tab 137 12 = some (.goto 4, 3, 16, 0, 0, .null) := by decide +kernel
theorem f137_15 : am_tab 137 15 = some (.iconst 0, 1, 0, 0, 0, .null) := by decide +kernel
theorem f137_16 : am_tab 137 16 = some (.ireturn, 1, 0, 0, 0, .null) := by decide +kernel
theorem f138_0 : am_tab 138 0 = some (.iload_n 0, 1, 0, 0, 0, .null) := by decide +kernel
theorem f138_1 : am_tab 138 1 = some (.iconst 1, 1, 0, 0, 0, .null) := by decide +kernel
theorem f138_2 : am_tab 138 2 = some (.if_icmp .lt 13, 3, 15, 0, 0, .null) := by decide +kernel
theorem f138_5 : am_tab 138 5 = some (.iload_n 0, 1, 0, 0, 0, .null) := by decide +kernel
theorem f138_6 : am_tab 138 6 = some (.bipush 11, 2, 0, 0, 0, .null) := by decide +kernel
theorem f138_8 : am_tab 138 8 = some (.if_icmp .gt 7, 3, 15, 0, 0, .null) := by decide +kernel
theorem f138_11 : am_tab 138 11 = some (.iconst 1, 1, 0, 0, 0, .null) := by decide +kernel
theorem f138_12 : am_tab 138 12 = some (.goto 4, 3, 16, 0, 0, .null) := by decide +kernel
theorem f138_15 : am_tab 138 15 = some (.iconst 0, 1, 0, 0, 0, .null) := by decide +kernel
theorem f138_16 : am_tab 138 16 = some (.ireturn, 1, 0, 0, 0, .null) := by decide +kernel
theorem f139_0 : am_tab 139 0 = some (.iload_n 0, 1, 0, 0, 0, .null) := by decide +kernel
theorem f139_1 : am_tab 139 1 = some (.ifCond .lt 12, 3, 13, 0, 0, .null) := by decide +kernel
theorem f139_4 : am_tab 139 4 = some (.iload_n 0, 1, 0, 0, 0, .null) := by decide +kernel
theorem f139_5 : am_tab 139 5 = some (.iconst 3, 1, 0, 0, 0, .null) := by decide +kernel
theorem f139_6 : am_tab 139 6 = some (.if_icmp .ge 7, 3, 13, 0, 0, .null) := by decide +kernel
theorem f139_9 : am_tab 139 9 = some (.iconst 1, 1, 0, 0, 0, .null) := by decide +kernel
theorem f139_10 : am_tab 139 10 = some (.goto 4, 3, 14, 0, 0, .null) := by decide +kernel
theorem f139_13 : am_tab 139 13 = some (.iconst 0, 1, 0, 0, 0, .null) := by decide +kernel
theorem f139_14 : am_tab 139 14 = some (.ireturn, 1, 0, 0, 0, .null) := by decide +kernel
theorem f141_0 : am_tab 141 0 = some (.lload_n 0, 1, 0, 0, 0, .null) := by decide +kernel
theorem f141_1 : am_tab 141 1 = some (.iload_n 2, 1, 0, 0, 0, .null) := by decide +kernel
theorem f141_2 : am_tab 141 2 = some (.lushr, 1, 0, 0, 0, .null) := by decide +kernel
theorem f141_3 : am_tab 141 3 = some (.lconst 1, 1, 0, 0, 0, .null) := by decide +kernel
theorem f141_4 : am_tab 141 4 = some (.land, 1, 0, 0, 0, .null) := by decide +kernel
theorem f141_5 : am_tab 141 5 = some (.l2i, 1, 0, 0, 0, .null) := by decide +kernel
theorem f141_6 : am_tab 141 6 = some (.ireturn, 1, 0, 0, 0, .null) := by decide +kernel
theorem f142_0 : am_tab 142 0 = some (.iconst 0, 1, 0, 0, 0, .null) := by decide +kernel
theorem f142_1 : am_tab 142 1 = some (.istore 6, 2, 0, 0, 0, .null) := by decide +kernel
theorem f142_3 : am_tab 142 3 = some (.iconst 0, 1, 0, 0, 0, .null) := by decide +kernel
theorem f142_4 : am_tab 142 4 = some (.istore 7, 2, 0, 0, 0, .null) := by decide +kernel
theorem f142_6 : am_tab 142 6 = some (.iload 7, 2, 0, 0, 0, .null) := by decide +kernel
theorem f142_8 : am_tab 142 8 = some (.aload_n 3, 1, 0, 0, 0, .null) := by decide +kernel
theorem f142_9 : am_tab 142 9 = some (.invokestatic 30, 3, 3, 1, 2025, .int 2) := by decide +kernel
theorem f142_12 : am_tab 142 12 = some (.if_icmp .ge 69, 3, 81, 0, 0, .null) := by decide +kernel
theorem f142_15 : am_tab 142 15 = some (.aload_n 3, 1, 0, 0, 0, .null) := by decide +kernel
theorem f142_16 : am_tab 142 16 = some (.iload 7, 2, 0, 0, 0, .null) := by decide +kernel
theorem f142_18 : am_tab 142 18 = some (.invokestatic 34, 3, 4, 2, 2183, .int 2) := by decide +kernel
theorem f142_21 : am_tab 142 21 = some (.istore 8, 2, 0, 0, 0, .null) := by decide +kernel
theorem f142_23 : am_tab 142 23 = some (.aload_n 3, 1, 0, 0, 0, .null) := by decide +kernel
theorem f142_24 : am_tab 142 24 = some (.iload 7, 2, 0, 0, 0, .null) := by decide +kernel
theorem f142_26 : am_tab 142 26 = some (.iconst 1, 1, 0, 0, 0, .null) := by decide +kernel
theorem f142_27 : am_tab 142 27 = some (.iadd, 1, 0, 0, 0, .null) := by decide +kernel
theorem f142_28 : am_tab 142 28 = some (.invokestatic 34, 3, 4, 2, 2183, .int 2) := by decide +kernel
theorem f142_31 : am_tab 142 31 = some (.istore 9, 2, 0, 0, 0, .null) := by decide +kernel
theorem f142_33 : am_tab 142 33 = some (.aload 4, 2, 0, 0, 0, .null) := by decide +kernel
theorem f142_35 : am_tab 142 35 = some (.iload 7, 2, 0, 0, 0, .null) := by decide +kernel
theorem f142_37 : am_tab 142 37 = some (.aload_n 1, 1, 0, 0, 0, .null) := by decide +kernel
theorem f142_38 : am_tab 142 38 = some (.iload 8, 2, 0, 0, 0, .null) := by decide +kernel
theorem f142_40 : am_tab 142 40 = some (.iload 9, 2, 0, 0, 0, .null) := by decide +kernel
theorem f142_42 : am_tab 142 42 = some (.invokestatic 15, 3, 5, 3, 2174, .int 2) := by decide +kernel
theorem f142_45 : am_tab 142 45 = some (.aload_n 1, 1, 0, 0, 0, .null) := by decide +kernel
theorem f142_46 : am_tab 142 46 = some (.aload_n 2, 1, 0, 0, 0, .null) := by decide +kernel
theorem f142_47 : am_tab 142 47 = some (.iload 8, 2, 0, 0, 0, .null) := by decide +kernel
theorem f142_49 : am_tab 142 49 = some (.iload 9, 2, 0, 0, 0, .null) := by decide +kernel
theorem f142_51 : am_tab 142 51 = some (.invokestatic 23, 3, 6, 4, 2177, .int 2) := by decide +kernel
theorem f142_54 : am_tab 142 54 = some (.isub, 1, 0, 0, 0, .null) := by decide +kernel
theorem f142_55 : am_tab 142 55 = some (.aload 4, 2, 0, 0, 0, .null) := by decide +kernel
theorem f142_57 : am_tab 142 57 = some (.bipush 12, 2, 0, 0, 0, .null) := by decide +kernel
theorem f142_59 : am_tab 142 59 = some (.iload 7, 2, 0, 0, 0, .null) := by decide +kernel
theorem f142_61 : am_tab 142 61 = some (.iadd, 1, 0, 0, 0, .null) := by decide +kernel
theorem f142_62 : am_tab 142 62 = some (.iaload, 1, 0, 0, 0, .null) := by decide +kernel
theorem f142_63 : am_tab 142 63 = some (.iadd, 1, 0, 0, 0, .null) := by decide +kernel
theorem f142_64 : am_tab 142 64 = some (.iastore, 1, 0, 0, 0, .null) := by decide +kernel
theorem f142_65 : am_tab 142 65 = some (.iload 6, 2, 0, 0, 0, .null) := by decide +kernel
theorem f142_67 : am_tab 142 67 = some (.aload 4, 2, 0, 0, 0, .null) := by decide +kernel
theorem f142_69 : am_tab 142 69 = some (.iload 7, 2, 0, 0, 0, .null) := by decide +kernel
theorem f142_71 : am_tab 142 71 = some (.iaload, 1, 0, 0, 0, .null) := by decide +kernel
theorem f142_72 : am_tab 142 72 = some (.iadd, 1, 0, 0, 0, .null) := by decide +kernel
theorem f142_73 : am_tab 142 73 = some (.istore 6, 2, 0, 0, 0, .null) := by decide +kernel
theorem f142_75 : am_tab 142 75 = some (.iinc 7 1, 3, 0, 0, 0, .null) := by decide +kernel
theorem f142_78 : am_tab 142 78 = some (.goto (-72), 3, 6, 0, 0, .null) := by decide +kernel
theorem f142_81 : am_tab 142 81 = some (.aload 5, 2, 0, 0, 0, .null) := by decide +kernel
theorem f142_83 : am_tab 142 83 = some (.iconst 0, 1, 0, 0, 0, .null) := by decide +kernel
theorem f142_84 : am_tab 142 84 = some (.iconst 1, 1, 0, 0, 0, .null) := by decide +kernel
theorem f142_85 : am_tab 142 85 = some (.iastore, 1, 0, 0, 0, .null) := by decide +kernel
theorem f142_86 : am_tab 142 86 = some (.aload_n 0, 1, 0, 0, 0, .null) := by decide +kernel
theorem f142_87 : am_tab 142 87 = some (.invokevirtual 103, 3, 119, 1, 4022, .int 0) := by decide +kernel
theorem f142_90 : am_tab 142 90 = some (.iload 6, 2, 0, 0, 0, .null) := by decide +kernel
theorem f142_92 : am_tab 142 92 = some (.if_icmp .ne 7, 3, 99, 0, 0, .null) := by decide +kernel
theorem f142_95 : am_tab 142 95 = some (.iconst 1, 1, 0, 0, 0, .null) := by decide +kernel
theorem f142_96 : am_tab 142 96 = some (.goto 4, 3, 100, 0, 0, .null) := by decide +kernel
theorem f142_99 : am_tab 142 99 = some (.iconst 0, 1, 0, 0, 0, .null) := by decide +kernel
theorem f142_100 : am_tab 142 100 = some (.ireturn, 1, 0, 0, 0, .null) := by decide +kernel
theorem f143_0 : am_tab 143 0 = some (.aload 7, 2, 0, 0, 0, .null) := by decide +kernel
theorem f143_2 : am_tab 143 2 = some (.iconst 2, 1, 0, 0, 0, .null) := by decide +kernel
theorem f143_3 : am_tab 143 3 = some (.iaload, 1, 0, 0, 0, .null) := by decide +kernel
theorem f143_4 : am_tab 143 4 = some (.iconst 1, 1, 0, 0, 0, .null) := by decide +kernel
theorem f143_5 : am_tab 143 5 = some (.if_icmp .ne 24, 3, 29, 0, 0, .null) := by decide +kernel
theorem f143_8 : am_tab 143 8 = some (.aload 7, 2, 0, 0, 0, .null) := by decide +kernel
theorem f143_10 : am_tab 143 10 = some (.iconst 0, 1, 0, 0, 0, .null) := by decide +kernel
theorem f143_11 : am_tab 143 11 = some (.iaload, 1, 0, 0, 0, .null) := by decide +kernel
theorem f143_12 : am_tab 143 12 = some (.ifCond .ne 17, 3, 29, 0, 0, .null) := by decide +kernel
theorem f143_15 : am_tab 143 15 = some (.aload_n 0, 1, 0, 0, 0, .null) := by decide +kernel
theorem f143_16 : am_tab 143 16 = some (.invokevirtual 73, 3, 124, 1, 3080, .int 0) := by decide +kernel
theorem f143_19 : am_tab 143 19 = some (.iconst (-1), 1, 0, 0, 0, .null) := by decide +kernel
theorem f143_20 : am_tab 143 20 = some (.if_icmp .ne 7, 3, 27, 0, 0, .null) := by decide +kernel
theorem f143_23 : am_tab 143 23 = some (.iconst 1, 1, 0, 0, 0, .null) := by decide +kernel
theorem f143_24 : am_tab 143 24 = some (.goto 4, 3, 28, 0, 0, .null) := by decide +kernel
theorem f143_27 : am_tab 143 27 = some (.iconst 0, 1, 0, 0, 0, .null) := by decide +kernel
theorem f143_28 : am_tab 143 28 = some (.ireturn, 1, 0, 0, 0, .null) := by decide +kernel
theorem f143_29 : am_tab 143 29 = some (.aload_n 1, 1, 0, 0, 0, .null) := by decide +kernel
theorem f143_30 : am_tab 143 30 = some (.aload_n 2, 1, 0, 0, 0, .null) := by decide +kernel
theorem f143_31 : am_tab 143 31 = some (.aload_n 3, 1, 0, 0, 0, .null) := by decide +kernel
theorem f143_32 : am_tab 143 32 = some (.aload 4, 2, 0, 0, 0, .null) := by decide +kernel
theorem f143_34 : am_tab 143 34 = some (.aload 5, 2, 0, 0, 0, .null) := by decide +kernel
theorem f143_36 : am_tab 143 36 = some (.aload 7, 2, 0, 0, 0, .null) := by decide +kernel
theorem f143_38 : am_tab 143 38 = some (.iload 8, 2, 0, 0, 0, .null) := by decide +kernel
theorem f143_40 : am_tab 143 40 = some (.aload 6, 2, 0, 0, 0, .null) := by decide +kernel
theorem f143_42 : am_tab 143 42 = some (.invokestatic 66, 3, 11, 8, 3017, .int 2) := by decide +kernel
theorem f143_45 : am_tab 143 45 = some (.istore 9, 2, 0, 0, 0, .null) := by decide +kernel
theorem f143_47 : am_tab 143 47 = some (.aload 7, 2, 0, 0, 0, .null) := by decide +kernel
theorem f143_49 : am_tab 143 49 = some (.iconst 1, 1, 0, 0, 0, .null) := by decide +kernel
theorem f143_50 : am_tab 143 50 = some (.dup2, 1, 0, 0, 0, .null) := by decide +kernel
theorem f143_51 : am_tab 143 51 = some (.iaload, 1, 0, 0, 0, .null) := by decide +kernel
theorem f143_52 : am_tab 143 52 = some (.iload 9, 2, 0, 0, 0, .null) := by decide +kernel
theorem f143_54 : am_tab 143 54 = some (.iadd, 1, 0, 0, 0, .null) := by decide +kernel
theorem f143_55 : am_tab 143 55 = some (.iastore, 1, 0, 0, 0, .null) := by decide +kernel
theorem f143_56 : am_tab 143 56 = some (.aload 7, 2, 0, 0, 0, .null) := by decide +kernel
theorem f143_58 : am_tab 143 58 = some (.iconst 3, 1, 0, 0, 0, .null) := by decide +kernel
theorem f143_59 : am_tab 143 59 = some (.iconst 0, 1, 0, 0, 0, .null) := by decide +kernel
theorem f143_60 : am_tab 143 60 = some (.iastore, 1, 0, 0, 0, .null) := by decide +kernel
theorem f143_61 : am_tab 143 61 = some (.aload 7, 2, 0, 0, 0, .null) := by decide +kernel
theorem f143_63 : am_tab 143 63 = some (.iconst 4, 1, 0, 0, 0, .null) := by decide +kernel
theorem f143_64 : am_tab 143 64 = some (.iconst 0, 1, 0, 0, 0, .null) := by decide +kernel
theorem f143_65 : am_tab 143 65 = some (.iastore, 1, 0, 0, 0, .null) := by decide +kernel
theorem f143_66 : am_tab 143 66 = some (.aload 7, 2, 0, 0, 0, .null) := by decide +kernel
theorem f143_68 : am_tab 143 68 = some (.iconst 5, 1, 0, 0, 0, .null) := by decide +kernel
theorem f143_69 : am_tab 143 69 = some (.iconst 0, 1, 0, 0, 0, .null) := by decide +kernel
theorem f143_70 : am_tab 143 70 = some (.iastore, 1, 0, 0, 0, .null) := by decide +kernel
theorem f143_71 : am_tab 143 71 = some (.iconst 0, 1, 0, 0, 0, .null) := by decide +kernel
theorem f143_72 : am_tab 143 72 = some (.istore 10, 2, 0, 0, 0, .null) := by decide +kernel
theorem f143_74 : am_tab 143 74 = some (.iload 10, 2, 0, 0, 0, .null) := by decide +kernel
theorem f143_76 : am_tab 143 76 = some (.bipush 48, 2, 0, 0, 0, .null) := by decide +kernel
theorem f143_78 : am_tab 143 78 = some (.if_icmp .ge 84, 3, 162, 0, 0, .null) := by decide +kernel
theorem f143_81 : am_tab 143 81 = some (.aload 7, 2, 0, 0, 0, .null) := by decide +kernel
theorem f143_83 : am_tab 143 83 = some (.iconst 3, 1, 0, 0, 0, .null) := by decide +kernel
theorem f143_84 : am_tab 143 84 = some (.dup2, 1, 0, 0, 0, .null) := by decide +kernel
theorem f143_85 : am_tab 143 85 = some (.iaload, 1, 0, 0, 0, .null) := by decide +kernel
theorem f143_86 : am_tab 143 86 = some (.aload 6, 2, 0, 0, 0, .null) := by decide +kernel
theorem f143_88 : am_tab 143 88 = some (.iload 10, 2, 0, 0, 0, .null) := by decide +kernel
theorem f143_90 : am_tab 143 90 = some (.iaload, 1, 0, 0, 0, .null) := by decide +kernel
theorem f143_91 : am_tab 143 91 = some (.iadd, 1, 0, 0, 0, .null) := by decide +kernel
theorem f143_92 : am_tab 143 92 = some (.iastore, 1, 0, 0, 0, .null) := by decide +kernel
theorem f143_93 : am_tab 143 93 = some (.aload 7, 2, 0, 0, 0, .null) := by decide +kernel
theorem f143_95 : am_tab 143 95 = some (.iconst 4, 1, 0, 0, 0, .null) := by decide +kernel
theorem f143_96 : am_tab 143 96 = some (.dup2, 1, 0, 0, 0, .null) := by decide +kernel
theorem f143_97 : am_tab 143 97 = some (.iaload, 1, 0, 0, 0, .null) := by decide +kernel
theorem f143_98 : am_tab 143 98 = some (.aload 6, 2, 0, 0, 0, .null) := by decide +kernel
theorem f143_100 : am_tab 143 100 = some (.iload 10, 2, 0, 0, 0, .null) := by decide +kernel
theorem f143_102 : am_tab 143 102 = some (.iaload, 1, 0, 0, 0, .null) := by decide +kernel
theorem f143_103 : am_tab 143 103 = some (.iconst 1, 1, 0, 0, 0, .null) := by decide +kernel
theorem f143_104 : am_tab 143 104 = some (.aload_n 2, 1, 0, 0, 0, .null) := by decide +kernel
theorem f143_105 : am_tab 143 105 = some (.iload 10, 2, 0, 0, 0, .null) := by decide +kernel
theorem f143_107 : am_tab 143 107 = some (.iaload, 1, 0, 0, 0, .null) := by decide +kernel
theorem f143_108 : am_tab 143 108 = some (.isub, 1, 0, 0, 0, .null) := by decide +kernel
theorem f143_109 : am_tab 143 109 = some (.imul, 1, 0, 0, 0, .null) := by decide +kernel
theorem f143_110 : am_tab 143 110 = some (.iadd, 1, 0, 0, 0, .null) := by decide +kernel
theorem f143_111 : am_tab 143 111 = some (.iastore, 1, 0, 0, 0, .null) := by decide +kernel
theorem f143_112 : am_tab 143 112 = some (.aload 7, 2, 0, 0, 0, .null) := by decide +kernel
theorem f143_114 : am_tab 143 114 = some (.iconst 5, 1, 0, 0, 0, .null) := by decide +kernel
theorem f143_115 : am_tab 143 115 = some (.dup2, 1, 0, 0, 0, .null) := by decide +kernel
theorem f143_116 : am_tab 143 116 = some (.iaload, 1, 0, 0, 0, .null) := by decide +kernel
theorem f143_117 : am_tab 143 117 = some (.iconst 1, 1, 0, 0, 0, .null) := by decide +kernel
theorem f143_118 : am_tab 143 118 = some (.aload 6, 2, 0, 0, 0, .null) := by decide +kernel
theorem f143_120 : am_tab 143 120 = some (.iload 10, 2, 0, 0, 0, .null) := by decide +kernel
theorem f143_122 : am_tab 143 122 = some (.iaload, 1, 0, 0, 0, .null) := by decide +kernel
theorem f143_123 : am_tab 143 123 = some (.isub, 1, 0, 0, 0, .null) := by decide +kernel
theorem f143_124 : am_tab 143 124 = some (.aload_n 2, 1, 0, 0, 0, .null) := by decide +kernel
theorem f143_125 : am_tab 143 125 = some (.iload 10, 2, 0, 0, 0, .null) := by decide +kernel
theorem f143_127 : am_tab 143 127 = some (.iaload, 1, 0, 0, 0, .null) := by decide +kernel
theorem f143_128 : am_tab 143 128 = some (.imul, 1, 0, 0, 0, .null) := by decide +kernel
theorem f143_129 : am_tab 143 129 = some (.iadd, 1, 0, 0, 0, .null) := by decide +kernel
theorem f143_130 : am_tab 143 130 = some (.iastore, 1, 0, 0, 0, .null) := by decide +kernel
theorem f143_131 : am_tab 143 131 = some (.aload_n 3, 1, 0, 0, 0, .null) := by decide +kernel
theorem f143_132 : am_tab 143 132 = some (.iload 10, 2, 0, 0, 0, .null) := by decide +kernel
theorem f143_134 : am_tab 143 134 = some (.dup2, 1, 0, 0, 0, .null) := by decide +kernel
theorem f143_135 : am_tab 143 135 = some (.iaload, 1, 0, 0, 0, .null) := by decide +kernel
theorem f143_136 : am_tab 143 136 = some (.aload_n 3, 1, 0, 0, 0, .null) := by decide +kernel
theorem f143_137 : am_tab 143 137 = some (.iload 10, 2, 0, 0, 0, .null) := by decide +kernel
theorem f143_139 : am_tab 143 139 = some (.iaload, 1, 0, 0, 0, .null) := by decide +kernel
theorem f143_140 : am_tab 143 140 = some (.bipush 99, 2, 0, 0, 0, .null) := by decide +kernel
theorem f143_142 : am_tab 143 142 = some (.if_icmp .ge 11, 3, 153, 0, 0, .null) := by decide +kernel
theorem f143_145 : am_tab 143 145 = some (.aload 6, 2, 0, 0, 0, .null) := by decide +kernel
theorem f143_147 : am_tab 143 147 = some (.iload 10, 2, 0, 0, 0, .null) := by decide +kernel
theorem f143_149 : am_tab 143 149 = some (.iaload, 1, 0, 0, 0, .null) := by decide +kernel
theorem f143_150 : am_tab 143 150 = some (.goto 4, 3, 154, 0, 0, .null) := by decide +kernel
theorem f143_153 : am_tab 143 153 = some (.iconst 0, 1, 0, 0, 0, .null) := by decide +kernel
theorem f143_154 : am_tab 143 154 = some (.iadd, 1, 0, 0, 0, .null) := by decide +kernel
theorem f143_155 : am_tab 143 155 = some (.iastore, 1, 0, 0, 0, .null) := by decide +kernel
theorem f143_156 : am_tab 143 156 = some (.iinc 10 1, 3, 0, 0, 0, .null) := by decide +kernel
theorem f143_159 : am_tab 143 159 = some (.goto (-85), 3, 74, 0, 0, .null) := by decide +kernel
theorem f143_162 : am_tab 143 162 = some (.aload_n 0, 1, 0, 0, 0, .null) := by decide +kernel
theorem f143_163 : am_tab 143 163 = some (.iload 8, 2, 0, 0, 0, .null) := by decide +kernel
theorem f143_165 : am_tab 143 165 = some (.invokevirtual 106, 3, 120, 2, 4044, .int 0) := by decide +kernel
theorem f143_168 : am_tab 143 168 = some (.iload 9, 2, 0, 0, 0, .null) := by decide +kernel
theorem f143_170 : am_tab 143 170 = some (.if_icmp .ne 7, 3, 177, 0, 0, .null) := by decide +kernel
theorem f143_173 : am_tab 143 173 = some (.iconst 1, 1, 0, 0, 0, .null) := by decide +kernel
theorem f143_174 : am_tab 143 174 = some (.goto 4, 3, 178, 0, 0, .null) := by decide +kernel
theorem f143_177 : am_tab 143 177 = some (.iconst 0, 1, 0, 0, 0, .null) := by decide +kernel
theorem f143_178 : am_tab 143 178 = some (.ireturn, 1, 0, 0, 0, .null) := by decide +kernel
theorem f144_0 : am_tab 144 0 = some (.aload_n 1, 1, 0, 0, 0, .null) := by decide +kernel
theorem f144_1 : am_tab 144 1 = some (.iload_n 2, 1, 0, 0, 0, .null) := by decide +kernel
theorem f144_2 : am_tab 144 2 = some (.iaload, 1, 0, 0, 0, .null) := by decide +kernel
theorem f144_3 : am_tab 144 3 = some (.istore 4, 2, 0, 0, 0, .null) := by decide +kernel
theorem f144_5 : am_tab 144 5 = some (.aload_n 1, 1, 0, 0, 0, .null) := by decide +kernel
theorem f144_6 : am_tab 144 6 = some (.iload_n 2, 1, 0, 0, 0, .null) := by decide +kernel
theorem f144_7 : am_tab 144 7 = some (.iload_n 3, 1, 0, 0, 0, .null) := by decide +kernel
theorem f144_8 : am_tab 144 8 = some (.iastore, 1, 0, 0, 0, .null) := by decide +kernel
theorem f144_9 : am_tab 144 9 = some (.aload_n 0, 1, 0, 0, 0, .null) := by decide +kernel
theorem f144_10 : am_tab 144 10 = some (.iload_n 2, 1, 0, 0, 0, .null) := by decide +kernel
theorem f144_11 : am_tab 144 11 = some (.iload_n 3, 1, 0, 0, 0, .null) := by decide +kernel
theorem f144_12 : am_tab 144 12 = some (.invokevirtual 109, 3, 114, 3, 3193, .int 0) := by decide +kernel
theorem f144_15 : am_tab 144 15 = some (.iload 4, 2, 0, 0, 0, .null) := by decide +kernel
theorem f144_17 : am_tab 144 17 = some (.if_icmp .ne 7, 3, 24, 0, 0, .null) := by decide +kernel
theorem f144_20 : am_tab 144 20 = some (.iconst 1, 1, 0, 0, 0, .null) := by decide +kernel
theorem f144_21 : am_tab 144 21 = some (.goto 4, 3, 25, 0, 0, .null) := by decide +kernel
theorem f144_24 : am_tab 144 24 = some (.iconst 0, 1, 0, 0, 0, .null) := by decide +kernel
theorem f144_25 : am_tab 144 25 = some (.ireturn, 1, 0, 0, 0, .null) := by decide +kernel
theorem f145_0 : am_tab 145 0 = some (.aload_n 1, 1, 0, 0, 0, .null) := by decide +kernel
theorem f145_1 : am_tab 145 1 = some (.iload_n 2, 1, 0, 0, 0, .null) := by decide +kernel
theorem f145_2 : am_tab 145 2 = some (.iload_n 3, 1, 0, 0, 0, .null) := by decide +kernel
theorem f145_3 : am_tab 145 3 = some (.iastore, 1, 0, 0, 0, .null) := by decide +kernel
theorem f145_4 : am_tab 145 4 = some (.iconst 0, 1, 0, 0, 0, .null) := by decide +kernel
theorem f145_5 : am_tab 145 5 = some (.istore 4, 2, 0, 0, 0, .null) := by decide +kernel
theorem f145_7 : am_tab 145 7 = some (.iconst 0, 1, 0, 0, 0, .null) := by decide +kernel
theorem f145_8 : am_tab 145 8 = some (.istore 5, 2, 0, 0, 0, .null) := by decide +kernel
theorem f145_10 : am_tab 145 10 = some (.iload 5, 2, 0, 0, 0, .null) := by decide +kernel
theorem f145_12 : am_tab 145 12 = some (.bipush 48, 2, 0, 0, 0, .null) := by decide +kernel
theorem f145_14 : am_tab 145 14 = some (.if_icmp .ge 18, 3, 32, 0, 0, .null) := by decide +kernel
theorem f145_17 : am_tab 145 17 = some (.iload 4, 2, 0, 0, 0, .null) := by decide +kernel
theorem f145_19 : am_tab 145 19 = some (.aload_n 1, 1, 0, 0, 0, .null) := by decide +kernel
theorem f145_20 : am_tab 145 20 = some (.iload 5, 2, 0, 0, 0, .null) := by decide +kernel
theorem f145_22 : am_tab 145 22 = some (.iaload, 1, 0, 0, 0, .null) := by decide +kernel
theorem f145_23 : am_tab 145 23 = some (.iadd, 1, 0, 0, 0, .null) := by decide +kernel
theorem f145_24 : am_tab 145 24 = some (.istore 4, 2, 0, 0, 0, .null) := by decide +kernel
theorem f145_26 : am_tab 145 26 = some (.iinc 5 1, 3, 0, 0, 0, .null) := by decide +kernel
theorem f145_29 : am_tab 145 29 = some (.goto (-19), 3, 10, 0, 0, .null) := by decide +kernel
theorem f145_32 : am_tab 145 32 = some (.aload_n 0, 1, 0, 0, 0, .null) := by decide +kernel
theorem f145_33 : am_tab 145 33 = some (.iload_n 2, 1, 0, 0, 0, .null) := by decide +kernel
theorem f145_34 : am_tab 145 34 = some (.iload_n 3, 1, 0, 0, 0, .null) := by decide +kernel
theorem f145_35 : am_tab 145 35 = some (.iconst 1, 1, 0, 0, 0, .null) := by decide +kernel
theorem f145_36 : am_tab 145 36 = some (.if_icmp .ne 7, 3, 43, 0, 0, .null) := by decide +kernel
theorem f145_39 : am_tab 145 39 = some (.iconst 1, 1, 0, 0, 0, .null) := by decide +kernel
theorem f145_40 : am_tab 145 40 = some (.goto 4, 3, 44, 0, 0, .null) := by decide +kernel
theorem f145_43 : am_tab 145 43 = some (.iconst 0, 1, 0, 0, 0, .null) := by decide +kernel
theorem f145_44 : am_tab 145 44 = some (.invokevirtual 112, 3, 115, 3, 3165, .int 0) := by decide +kernel
theorem f145_47 : am_tab 145 47 = some (.iload 4, 2, 0, 0, 0, .null) := by decide +kernel
theorem f145_49 : am_tab 145 49 = some (.if_icmp .ne 7, 3, 56, 0, 0, .null) := by decide +kernel
theorem f145_52 : am_tab 145 52 = some (.iconst 1, 1, 0, 0, 0, .null) := by decide +kernel
theorem f145_53 : am_tab 145 53 = some (.goto 4, 3, 57, 0, 0, .null) := by decide +kernel
theorem f145_56 : am_tab 145 56 = some (.iconst 0, 1, 0, 0, 0, .null) := by decide +kernel
theorem f145_57 : am_tab 145 57 = some (.ireturn, 1, 0, 0, 0, .null) := by decide +kernel
theorem f146_0 : am_tab 146 0 = some (.iload 8, 2, 0, 0, 0, .null) := by decide +kernel
theorem f146_2 : am_tab 146 2 = some (.tableswitch 311 0 10 #[58, 58, 58, 90, 131, 131, 170, 193, 261, 261, 274], 58, 0, 0, 0, .null) := by decide +kernel
theorem f146_60 : am_tab 146 60 = some (.aload_n 0, 1, 0, 0, 0, .null) := by decide +kernel
theorem f146_61 : am_tab 146 61 = some (.aload_n 2, 1, 0, 0, 0, .null) := by decide +kernel
theorem f146_62 : am_tab 146 62 = some (.iload 9, 2, 0, 0, 0, .null) := by decide +kernel
theorem f146_64 : am_tab 146 64 = some (.iconst 3, 1, 0, 0, 0, .null) := by decide +kernel
theorem f146_65 : am_tab 146 65 = some (.ishr, 1, 0, 0, 0, .null) := by decide +kernel
theorem f146_66 : am_tab 146 66 = some (.bipush 48, 2, 0, 0, 0, .null) := by decide +kernel
theorem f146_68 : am_tab 146 68 = some (.invokestatic 115, 3, 2, 2, 2021, .int 2) := by decide +kernel
theorem f146_71 : am_tab 146 71 = some (.iload 9, 2, 0, 0, 0, .null) := by decide +kernel
theorem f146_73 : am_tab 146 73 = some (.bipush 9, 2, 0, 0, 0, .null) := by decide +kernel
theorem f146_75 : am_tab 146 75 = some (.ishr, 1, 0, 0, 0, .null) := by decide +kernel
theorem f146_76 : am_tab 146 76 = some (.iconst 3, 1, 0, 0, 0, .null) := by decide +kernel
theorem f146_77 : am_tab 146 77 = some (.invokestatic 115, 3, 2, 2, 2021, .int 2) := by decide +kernel
theorem f146_80 : am_tab 146 80 = some (.ifCond .le 7, 3, 87, 0, 0, .null) := by decide +kernel
theorem f146_83 : am_tab 146 83 = some (.iconst 1, 1, 0, 0, 0, .null) := by decide +kernel
theorem f146_84 : am_tab 146 84 = some (.goto 4, 3, 88, 0, 0, .null) := by decide +kernel
theorem f146_87 : am_tab 146 87 = some (.iconst 0, 1, 0, 0, 0, .null) := by decide +kernel
theorem f146_88 : am_tab 146 88 = some (.invokestatic 118, 3, 145, 4, 3162, .int 2) := by decide +kernel
theorem f146_91 : am_tab 146 91 = some (.ireturn, 1, 0, 0, 0, .null) := by decide +kernel
theorem f146_92 : am_tab 146 92 = some (.aload_n 0, 1, 0, 0, 0, .null) := by decide +kernel
theorem f146_93 : am_tab 146 93 = some (.aload_n 1, 1, 0, 0, 0, .null) := by decide +kernel
theorem f146_94 : am_tab 146 94 = some (.iload 9, 2, 0, 0, 0, .null) := by decide +kernel
theorem f146_96 : am_tab 146 96 = some (.iconst 3, 1, 0, 0, 0, .null) := by decide +kernel
theorem f146_97 : am_tab 146 97 = some (.ishr, 1, 0, 0, 0, .null) := by decide +kernel
theorem f146_98 : am_tab 146 98 = some (.bipush 48, 2, 0, 0, 0, .null) := by decide +kernel
theorem f146_100 : am_tab 146 100 = some (.invokestatic 115, 3, 2, 2, 2021, .int 2) := by decide +kernel
theorem f146_103 : am_tab 146 103 = some (.iconst 1, 1, 0, 0, 0, .null) := by decide +kernel
theorem f146_104 : am_tab 146 104 = some (.iload 9, 2, 0, 0, 0, .null) := by decide +kernel
theorem f146_106 : am_tab 146 106 = some (.bipush 9, 2, 0, 0, 0, .null) := by decide +kernel
theorem f146_108 : am_tab 146 108 = some (.ishr, 1, 0, 0, 0, .null) := by decide +kernel
theorem f146_109 : am_tab 146 109 = some (.iload 9, 2, 0, 0, 0, .null) := by decide +kernel
theorem f146_111 : am_tab 146 111 = some (.iconst 3, 1, 0, 0, 0, .null) := by decide +kernel
theorem f146_112 : am_tab 146 112 = some (.invokestatic 115, 3, 2, 2, 2021, .int 2) := by decide +kernel
theorem f146_115 : am_tab 146 115 = some (.ifCond .ne 8, 3, 123, 0, 0, .null) := by decide +kernel
theorem f146_118 : am_tab 146 118 = some (.bipush 99, 2, 0, 0, 0, .null) := by decide +kernel
theorem f146_120 : am_tab 146 120 = some (.goto 5, 3, 125, 0, 0, .null) := by decide +kernel
theorem f146_123 : am_tab 146 123 = some (.bipush 6, 2, 0, 0, 0, .null) := by decide +kernel
theorem f146_125 : am_tab 146 125 = some (.invokestatic 115, 3, 2, 2, 2021, .int 2) := by decide +kernel
theorem f146_128 : am_tab 146 128 = some (.iadd, 1, 0, 0, 0, .null) := by decide +kernel
theorem f146_129 : am_tab 146 129 = some (.invokestatic 122, 3, 144, 4, 3190, .int 2) := by decide +kernel
theorem f146_132 : am_tab 146 132 = some (.ireturn, 1, 0, 0, 0, .null) := by decide +kernel
theorem f146_133 : am_tab 146 133 = some (.aload_n 0, 1, 0, 0, 0, .null) := by decide +kernel
theorem f146_134 : am_tab 146 134 = some (.aload 4, 2, 0, 0, 0, .null) := by decide +kernel
theorem f146_136 : am_tab 146 136 = some (.aload 5, 2, 0, 0, 0, .null) := by decide +kernel
theorem f146_138 : am_tab 146 138 = some (.aload 7, 2, 0, 0, 0, .null) := by decide +kernel
theorem f146_140 : am_tab 146 140 = some (.iconst 1, 1, 0, 0, 0, .null) := by decide +kernel
theorem f146_141 : am_tab 146 141 = some (.iload 9, 2, 0, 0, 0, .null) := by decide +kernel
theorem f146_143 : am_tab 146 143 = some (.iconst 3, 1, 0, 0, 0, .null) := by decide +kernel
theorem f146_144 : am_tab 146 144 = some (.ishr, 1, 0, 0, 0, .null) := by decide +kernel
theorem f146_145 : am_tab 146 145 = some (.bipush 47, 2, 0, 0, 0, .null) := by decide +kernel
theorem f146_147 : am_tab 146 147 = some (.invokestatic 115, 3, 2, 2, 2021, .int 2) := by decide +kernel
theorem f146_150 : am_tab 146 150 = some (.iadd, 1, 0, 0, 0, .null) := by decide +kernel
theorem f146_151 : am_tab 146 151 = some (.iload 9, 2, 0, 0, 0, .null) := by decide +kernel
theorem f146_153 : am_tab 146 153 = some (.bipush 9, 2, 0, 0, 0, .null) := by decide +kernel
theorem f146_155 : am_tab 146 155 = some (.ishr, 1, 0, 0, 0, .null) := by decide +kernel
theorem f146_156 : am_tab 146 156 = some (.iconst 4, 1, 0, 0, 0, .null) := by decide +kernel
theorem f146_157 : am_tab 146 157 = some (.invokestatic 115, 3, 2, 2, 2021, .int 2) := by decide +kernel
theorem f146_160 : am_tab 146 160 = some (.ifCond .le 7, 3, 167, 0, 0, .null) := by decide +kernel
theorem f146_163 : am_tab 146 163 = some (.iconst 1, 1, 0, 0, 0, .null) := by decide +kernel
theorem f146_164 : am_tab 146 164 = some (.goto 4, 3, 168, 0, 0, .null) := by decide +kernel
theorem f146_167 : am_tab 146 167 = some (.iconst 0, 1, 0, 0, 0, .null) := by decide +kernel
theorem f146_168 : am_tab 146 168 = some (.invokestatic 125, 3, 21, 6, 3205, .int 2) := by decide +kernel
theorem f146_171 : am_tab 146 171 = some (.ireturn, 1, 0, 0, 0, .null) := by decide +kernel
theorem f146_172 : am_tab 146 172 = some (.aload_n 0, 1, 0, 0, 0, .null) := by decide +kernel
theorem f146_173 : am_tab 146 173 = some (.aload_n 1, 1, 0, 0, 0, .null) := by decide +kernel
theorem f146_174 : am_tab 146 174 = some (.aload 4, 2, 0, 0, 0, .null) := by decide +kernel
theorem f146_176 : am_tab 146 176 = some (.aload 5, 2, 0, 0, 0, .null) := by decide +kernel
theorem f146_178 : am_tab 146 178 = some (.aload 7, 2, 0, 0, 0, .null) := by decide +kernel
theorem f146_180 : am_tab 146 180 = some (.iconst 1, 1, 0, 0, 0, .null) := by decide +kernel
theorem f146_181 : am_tab 146 181 = some (.iload 9, 2, 0, 0, 0, .null) := by decide +kernel
theorem f146_183 : am_tab 146 183 = some (.iconst 3, 1, 0, 0, 0, .null) := by decide +kernel
theorem f146_184 : am_tab 146 184 = some (.ishr, 1, 0, 0, 0, .null) := by decide +kernel
theorem f146_185 : am_tab 146 185 = some (.bipush 11, 2, 0, 0, 0, .null) := by decide +kernel
theorem f146_187 : am_tab 146 187 = some (.invokestatic 115, 3, 2, 2, 2021, .int 2) := by decide +kernel
theorem f146_190 : am_tab 146 190 = some (.iadd, 1, 0, 0, 0, .null) := by decide +kernel
theorem f146_191 : am_tab 146 191 = some (.invokestatic 129, 3, 22, 6, 3233, .int 2) := by decide +kernel
theorem f146_194 : am_tab 146 194 = some (.ireturn, 1, 0, 0, 0, .null) := by decide +kernel
theorem f146_195 : am_tab 146 195 = some (.iload 9, 2, 0, 0, 0, .null) := by decide +kernel
theorem f146_197 : am_tab 146 197 = some (.iconst 3, 1, 0, 0, 0, .null) := by decide +kernel
theorem f146_198 : am_tab 146 198 = some (.ishr, 1, 0, 0, 0, .null) := by decide +kernel
theorem f146_199 : am_tab 146 199 = some (.aload 4, 2, 0, 0, 0, .null) := by decide +kernel
theorem f146_201 : am_tab 146 201 = some (.invokestatic 30, 3, 3, 1, 2025, .int 2) := by decide +kernel
theorem f146_204 : am_tab 146 204 = some (.invokestatic 115, 3, 2, 2, 2021, .int 2) := by decide +kernel
theorem f146_207 : am_tab 146 207 = some (.istore 10, 2, 0, 0, 0, .null) := by decide +kernel
theorem f146_209 : am_tab 146 209 = some (.aload 5, 2, 0, 0, 0, .null) := by decide +kernel
theorem f146_211 : am_tab 146 211 = some (.bipush 12, 2, 0, 0, 0, .null) := by decide +kernel
theorem f146_213 : am_tab 146 213 = some (.iload 10, 2, 0, 0, 0, .null) := by decide +kernel
theorem f146_215 : am_tab 146 215 = some (.iadd, 1, 0, 0, 0, .null) := by decide +kernel
theorem f146_216 : am_tab 146 216 = some (.iaload, 1, 0, 0, 0, .null) := by decide +kernel
theorem f146_217 : am_tab 146 217 = some (.istore 11, 2, 0, 0, 0, .null) := by decide +kernel
theorem f146_219 : am_tab 146 219 = some (.aload 5, 2, 0, 0, 0, .null) := by decide +kernel
theorem f146_221 : am_tab 146 221 = some (.bipush 12, 2, 0, 0, 0, .null) := by decide +kernel
theorem f146_223 : am_tab 146 223 = some (.iload 10, 2, 0, 0, 0, .null) := by decide +kernel
theorem f146_225 : am_tab 146 225 = some (.iadd, 1, 0, 0, 0, .null) := by decide +kernel
theorem f146_226 : am_tab 146 226 = some (.iload 9, 2, 0, 0, 0, .null) := by decide +kernel
theorem f146_228 : am_tab 146 228 = some (.bipush 7, 2, 0, 0, 0, .null) := by decide +kernel
theorem f146_230 : am_tab 146 230 = some (.ishr, 1, 0, 0, 0, .null) := by decide +kernel
theorem f146_231 : am_tab 146 231 = some (.iconst 5, 1, 0, 0, 0, .null) := by decide +kernel
theorem f146_232 : am_tab 146 232 = some (.invokestatic 115, 3, 2, 2, 2021, .int 2) := by decide +kernel
theorem f146_235 : am_tab 146 235 = some (.iconst 2, 1, 0, 0, 0, .null) := by decide +kernel
theorem f146_236 : am_tab 146 236 = some (.isub, 1, 0, 0, 0, .null) := by decide +kernel
theorem f146_237 : am_tab 146 237 = some (.iastore, 1, 0, 0, 0, .null) := by decide +kernel
theorem f146_238 : am_tab 146 238 = some (.aload_n 0, 1, 0, 0, 0, .null) := by decide +kernel
theorem f146_239 : am_tab 146 239 = some (.iload 10, 2, 0, 0, 0, .null) := by decide +kernel
theorem f146_241 : am_tab 146 241 = some (.aload 5, 2, 0, 0, 0, .null) := by decide +kernel
theorem f146_243 : am_tab 146 243 = some (.bipush 12, 2, 0, 0, 0, .null) := by decide +kernel
theorem f146_245 : am_tab 146 245 = some (.iload 10, 2, 0, 0, 0, .null) := by decide +kernel
theorem f146_247 : am_tab 146 247 = some (.iadd, 1, 0, 0, 0, .null) := by decide +kernel
theorem f146_248 : am_tab 146 248 = some (.iaload, 1, 0, 0, 0, .null) := by decide +kernel
theorem f146_249 : am_tab 146 249 = some (.invokevirtual 133, 3, 118, 3, 4006, .int 0) := by decide +kernel
theorem f146_252 : am_tab 146 252 = some (.iload 11, 2, 0, 0, 0, .null) := by decide +kernel
theorem f146_254 : am_tab 146 254 = some (.if_icmp .ne 7, 3, 261, 0, 0, .null) := by decide +kernel
theorem f146_257 : am_tab 146 257 = some (.iconst 1, 1, 0, 0, 0, .null) := by decide +kernel
theorem f146_258 : am_tab 146 258 = some (.goto 4, 3, 262, 0, 0, .null) := by decide +kernel
theorem f146_261 : am_tab 146 261 = some (.iconst 0, 1, 0, 0, 0, .null) := by decide +kernel
theorem f146_262 : am_tab 146 262 = some (.ireturn, 1, 0, 0, 0, .null) := by decide +kernel
theorem f146_263 : am_tab 146 263 = some (.aload_n 0, 1, 0, 0, 0, .null) := by decide +kernel
theorem f146_264 : am_tab 146 264 = some (.aload_n 1, 1, 0, 0, 0, .null) := by decide +kernel
theorem f146_265 : am_tab 146 265 = some (.aload_n 2, 1, 0, 0, 0, .null) := by decide +kernel
theorem f146_266 : am_tab 146 266 = some (.aload 4, 2, 0, 0, 0, .null) := by decide +kernel
theorem f146_268 : am_tab 146 268 = some (.aload 5, 2, 0, 0, 0, .null) := by decide +kernel
theorem f146_270 : am_tab 146 270 = some (.aload 7, 2, 0, 0, 0, .null) := by decide +kernel
theorem f146_272 : am_tab 146 272 = some (.invokestatic 136, 3, 142, 6, 4019, .int 2) := by decide +kernel
theorem f146_275 : am_tab 146 275 = some (.ireturn, 1, 0, 0, 0, .null) := by decide +kernel
theorem f146_276 : am_tab 146 276 = some (.aload 7, 2, 0, 0, 0, .null) := by decide +kernel
theorem f146_278 : am_tab 146 278 = some (.iconst 2, 1, 0, 0, 0, .null) := by decide +kernel
theorem f146_279 : am_tab 146 279 = some (.iaload, 1, 0, 0, 0, .null) := by decide +kernel
theorem f146_280 : am_tab 146 280 = some (.istore 12, 2, 0, 0, 0, .null) := by decide +kernel
theorem f146_282 : am_tab 146 282 = some (.aload 7, 2, 0, 0, 0, .null) := by decide +kernel
theorem f146_284 : am_tab 146 284 = some (.iconst 2, 1, 0, 0, 0, .null) := by decide +kernel
theorem f146_285 : am_tab 146 285 = some (.iload 9, 2, 0, 0, 0, .null) := by decide +kernel
theorem f146_287 : am_tab 146 287 = some (.iconst 3, 1, 0, 0, 0, .null) := by decide +kernel
theorem f146_288 : am_tab 146 288 = some (.ishr, 1, 0, 0, 0, .null) := by decide +kernel
theorem f146_289 : am_tab 146 289 = some (.iconst 2, 1, 0, 0, 0, .null) := by decide +kernel
theorem f146_290 : am_tab 146 290 = some (.invokestatic 115, 3, 2, 2, 2021, .int 2) := by decide +kernel
theorem f146_293 : am_tab 146 293 = some (.iastore, 1, 0, 0, 0, .null) := by decide +kernel
theorem f146_294 : am_tab 146 294 = some (.aload_n 0, 1, 0, 0, 0, .null) := by decide +kernel
theorem f146_295 : am_tab 146 295 = some (.aload 7, 2, 0, 0, 0, .null) := by decide +kernel
theorem f146_297 : am_tab 146 297 = some (.iconst 2, 1, 0, 0, 0, .null) := by decide +kernel
theorem f146_298 : am_tab 146 298 = some (.iaload, 1, 0, 0, 0, .null) := by decide +kernel
theorem f146_299 : am_tab 146 299 = some (.invokevirtual 140, 3, 121, 2, 4036, .int 0) := by decide +kernel
theorem f146_302 : am_tab 146 302 = some (.iload 12, 2, 0, 0, 0, .null) := by decide +kernel
theorem f146_304 : am_tab 146 304 = some (.if_icmp .ne 7, 3, 311, 0, 0, .null) := by decide +kernel
theorem f146_307 : am_tab 146 307 = some (.iconst 1, 1, 0, 0, 0, .null) := by decide +kernel
theorem f146_308 : am_tab 146 308 = some (.goto 4, 3, 312, 0, 0, .null) := by decide +kernel
theorem f146_311 : am_tab 146 311 = some (.iconst 0, 1, 0, 0, 0, .null) := by decide +kernel
theorem f146_312 : am_tab 146 312 = some (.ireturn, 1, 0, 0, 0, .null) := by decide +kernel
theorem f146_313 : am_tab 146 313 = some (.aload_n 0, 1, 0, 0, 0, .null) := by decide +kernel
theorem f146_314 : am_tab 146 314 = some (.aload_n 1, 1, 0, 0, 0, .null) := by decide +kernel
theorem f146_315 : am_tab 146 315 = some (.aload_n 2, 1, 0, 0, 0, .null) := by decide +kernel
theorem f146_316 : am_tab 146 316 = some (.aload_n 3, 1, 0, 0, 0, .null) := by decide +kernel
theorem f146_317 : am_tab 146 317 = some (.aload 4, 2, 0, 0, 0, .null) := by decide +kernel
theorem f146_319 : am_tab 146 319 = some (.aload 5, 2, 0, 0, 0, .null) := by decide +kernel
theorem f146_321 : am_tab 146 321 = some (.aload 6, 2, 0, 0, 0, .null) := by decide +kernel
theorem f146_323 : am_tab 146 323 = some (.aload 7, 2, 0, 0, 0, .null) := by decide +kernel
theorem f146_325 : am_tab 146 325 = some (.iload 9, 2, 0, 0, 0, .null) := by decide +kernel
theorem f146_327 : am_tab 146 327 = some (.iconst 3, 1, 0, 0, 0, .null) := by decide +kernel
theorem f146_328 : am_tab 146 328 = some (.ishr, 1, 0, 0, 0, .null) := by decide +kernel
theorem f146_329 : am_tab 146 329 = some (.iconst 3, 1, 0, 0, 0, .null) := by decide +kernel
theorem f146_330 : am_tab 146 330 = some (.invokestatic 115, 3, 2, 2, 2021, .int 2) := by decide +kernel
theorem f146_333 : am_tab 146 333 = some (.invokestatic 143, 3, 143, 9, 4041, .int 2) := by decide +kernel
theorem f146_336 : am_tab 146 336 = some (.ireturn, 1, 0, 0, 0, .null) := by decide +kernel
theorem f231_0 : am_tab 231 0 = some (.lload_n 0, 1, 0, 0, 0, .null) := by decide +kernel
theorem f231_1 : am_tab 231 1 = some (.lload_n 0, 1, 0, 0, 0, .null) := by decide +kernel
theorem f231_2 : am_tab 231 2 = some (.iconst 1, 1, 0, 0, 0, .null) := by decide +kernel
theorem f231_3 : am_tab 231 3 = some (.lushr, 1, 0, 0, 0, .null) := by decide +kernel
theorem f231_4 : am_tab 231 4 = some (.ldc2_w 314, 3, 0, 0, 2126, .long (6148914691236517205)) := by decide +kernel
theorem f231_7 : am_tab 231 7 = some (.land, 1, 0, 0, 0, .null) := by decide +kernel
theorem f231_8 : am_tab 231 8 = some (.lsub, 1, 0, 0, 0, .null) := by decide +kernel
theorem f231_9 : am_tab 231 9 = some (.lstore_n 0, 1, 0, 0, 0, .null) := by decide +kernel
theorem f231_10 : am_tab 231 10 = some (.lload_n 0, 1, 0, 0, 0, .null) := by decide +kernel
theorem f231_11 : am_tab 231 11 = some (.ldc2_w 316, 3, 0, 0, 2127, .long (3689348814741910323)) := by decide +kernel
theorem f231_14 : am_tab 231 14 = some (.land, 1, 0, 0, 0, .null) := by decide +kernel
theorem f231_15 : am_tab 231 15 = some (.lload_n 0, 1, 0, 0, 0, .null) := by decide +kernel
theorem f231_16 : am_tab 231 16 = some (.iconst 2, 1, 0, 0, 0, .null) := by decide +kernel
theorem f231_17 : am_tab 231 17 = some (.lushr, 1, 0, 0, 0, .null) := by decide +kernel
theorem f231_18 : am_tab 231 18 = some (.ldc2_w 316, 3, 0, 0, 2127, .long (3689348814741910323)) := by decide +kernel
theorem f231_21 : am_tab 231 21 = some (.land, 1, 0, 0, 0, .null) := by decide +kernel
theorem f231_22 : am_tab 231 22 = some (.ladd, 1, 0, 0, 0, .null) := by decide +kernel
theorem f231_23 : am_tab 231 23 = some (.lstore_n 0, 1, 0, 0, 0, .null) := by decide +kernel
theorem f231_24 : am_tab 231 24 = some (.lload_n 0, 1, 0, 0, 0, .null) := by decide +kernel
theorem f231_25 : am_tab 231 25 = some (.lload_n 0, 1, 0, 0, 0, .null) := by decide +kernel
theorem f231_26 : am_tab 231 26 = some (.iconst 4, 1, 0, 0, 0, .null) := by decide +kernel
theorem f231_27 : am_tab 231 27 = some (.lushr, 1, 0, 0, 0, .null) := by decide +kernel
theorem f231_28 : am_tab 231 28 = some (.ladd, 1, 0, 0, 0, .null) := by decide +kernel
theorem f231_29 : am_tab 231 29 = some (.ldc2_w 318, 3, 0, 0, 2128, .long (1085102592571150095)) := by decide +kernel
theorem f231_32 : am_tab 231 32 = some (.land, 1, 0, 0, 0, .null) := by decide +kernel
theorem f231_33 : am_tab 231 33 = some (.lstore_n 0, 1, 0, 0, 0, .null) := by decide +kernel
theorem f231_34 : am_tab 231 34 = some (.lload_n 0, 1, 0, 0, 0, .null) := by decide +kernel
theorem f231_35 : am_tab 231 35 = some (.lload_n 0, 1, 0, 0, 0, .null) := by decide +kernel
theorem f231_36 : am_tab 231 36 = some (.bipush 8, 2, 0, 0, 0, .null) := by decide +kernel
theorem f231_38 : am_tab 231 38 = some (.lushr, 1, 0, 0, 0, .null) := by decide +kernel
theorem f231_39 : am_tab 231 39 = some (.ladd, 1, 0, 0, 0, .null) := by decide +kernel
theorem f231_40 : am_tab 231 40 = some (.lstore_n 0, 1, 0, 0, 0, .null) := by decide +kernel
theorem f231_41 : am_tab 231 41 = some (.lload_n 0, 1, 0, 0, 0, .null) := by decide +kernel
theorem f231_42 : am_tab 231 42 = some (.lload_n 0, 1, 0, 0, 0, .null) := by decide +kernel
theorem f231_43 : am_tab 231 43 = some (.bipush 16, 2, 0, 0, 0, .null) := by decide +kernel
theorem f231_45 : am_tab 231 45 = some (.lushr, 1, 0, 0, 0, .null) := by decide +kernel
theorem f231_46 : am_tab 231 46 = some (.ladd, 1, 0, 0, 0, .null) := by decide +kernel
theorem f231_47 : am_tab 231 47 = some (.lstore_n 0, 1, 0, 0, 0, .null) := by decide +kernel
theorem f231_48 : am_tab 231 48 = some (.lload_n 0, 1, 0, 0, 0, .null) := by decide +kernel
theorem f231_49 : am_tab 231 49 = some (.lload_n 0, 1, 0, 0, 0, .null) := by decide +kernel
theorem f231_50 : am_tab 231 50 = some (.bipush 32, 2, 0, 0, 0, .null) := by decide +kernel
theorem f231_52 : am_tab 231 52 = some (.lushr, 1, 0, 0, 0, .null) := by decide +kernel
theorem f231_53 : am_tab 231 53 = some (.ladd, 1, 0, 0, 0, .null) := by decide +kernel
theorem f231_54 : am_tab 231 54 = some (.lstore_n 0, 1, 0, 0, 0, .null) := by decide +kernel
theorem f231_55 : am_tab 231 55 = some (.lload_n 0, 1, 0, 0, 0, .null) := by decide +kernel
theorem f231_56 : am_tab 231 56 = some (.l2i, 1, 0, 0, 0, .null) := by decide +kernel
theorem f231_57 : am_tab 231 57 = some (.bipush 127, 2, 0, 0, 0, .null) := by decide +kernel
theorem f231_59 : am_tab 231 59 = some (.iand, 1, 0, 0, 0, .null) := by decide +kernel
theorem f231_60 : am_tab 231 60 = some (.ireturn, 1, 0, 0, 0, .null) := by decide +kernel
