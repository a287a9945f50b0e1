theorem f0_0 : am_tab 0 0 = some (.new 8, 3, 9, 11, 1023, .null) := by decide +kernel
theorem f0_3 : am_tab 0 3 = some (.dup, 1, 0, 0, 0, .null) := by decide +kernel
theorem f0_4 : am_tab 0 4 = some (.invokespecial 88, 3, 106, 1, 1025, .int 4) := by decide +kernel
theorem f0_7 : am_tab 0 7 = some (.astore_n 1, 1, 0, 0, 0, .null) := by decide +kernel
theorem f0_8 : am_tab 0 8 = some (.new 89, 3, 10, 20, 5018, .null) := by decide +kernel
theorem f0_11 : am_tab 0 11 = some (.dup, 1, 0, 0, 0, .null) := by decide +kernel
theorem f0_12 : am_tab 0 12 = some (.invokespecial 91, 3, 142, 1, 5020, .int 4) := by decide +kernel
theorem f0_15 : am_tab 0 15 = some (.astore_n 2, 1, 0, 0, 0, .null) := by decide +kernel
theorem f0_16 : am_tab 0 16 = some (.iconst 1, 1, 0, 0, 0, .null) := by decide +kernel
theorem f0_17 : am_tab 0 17 = some (.newarray .long, 2, 3, 0, 1175, .null) := by decide +kernel
theorem f0_19 : am_tab 0 19 = some (.astore_n 3, 1, 0, 0, 0, .null) := by decide +kernel
theorem f0_20 : am_tab 0 20 = some (.iconst 0, 1, 0, 0, 0, .null) := by decide +kernel
theorem f0_21 : am_tab 0 21 = some (.istore 4, 2, 0, 0, 0, .null) := by decide +kernel
theorem f0_23 : am_tab 0 23 = some (.iload 4, 2, 0, 0, 0, .null) := by decide +kernel
theorem f0_25 : am_tab 0 25 = some (.aload_n 0, 1, 0, 0, 0, .null) := by decide +kernel
theorem f0_26 : am_tab 0 26 = some (.arraylength, 1, 0, 0, 0, .null) := by decide +kernel
theorem f0_27 : am_tab 0 27 = some (.iconst 4, 1, 0, 0, 0, .null) := by decide +kernel
theorem f0_28 : am_tab 0 28 = some (.isub, 1, 0, 0, 0, .null) := by decide +kernel
theorem f0_29 : am_tab 0 29 = some (.if_icmp .gt 1638, 3, 1667, 0, 0, .null) := by decide +kernel
theorem f0_32 : am_tab 0 32 = some (.aload_n 0, 1, 0, 0, 0, .null) := by decide +kernel
theorem f0_33 : am_tab 0 33 = some (.iload 4, 2, 0, 0, 0, .null) := by decide +kernel
theorem f0_35 : am_tab 0 35 = some (.iaload, 1, 0, 0, 0, .null) := by decide +kernel
theorem f0_36 : am_tab 0 36 = some (.bipush 31, 2, 0, 0, 0, .null) := by decide +kernel
theorem f0_38 : am_tab 0 38 = some (.iand, 1, 0, 0, 0, .null) := by decide +kernel
theorem f0_39 : am_tab 0 39 = some (.tableswitch 1622 0 26 #[121, 177, 190, 203, 247, 303, 371, 439, 507, 591, 675, 731, 799, 812, 868, 924, 968, 1036, 1049, 1129, 1185, 1241, 1297, 1310, 1410, 1510, 1566], 121, 0, 0, 0, .null) := by decide +kernel
theorem f0_160 : am_tab 0 160 = some (.aload_n 1, 1, 0, 0, 0, .null) := by decide +kernel
theorem f0_161 : am_tab 0 161 = some (.aload_n 0, 1, 0, 0, 0, .null) := by decide +kernel
theorem f0_162 : am_tab 0 162 = some (.iload 4, 2, 0, 0, 0, .null) := by decide +kernel
theorem f0_164 : am_tab 0 164 = some (.iconst 1, 1, 0, 0, 0, .null) := by decide +kernel
theorem f0_165 : am_tab 0 165 = some (.iadd, 1, 0, 0, 0, .null) := by decide +kernel
theorem f0_166 : am_tab 0 166 = some (.iaload, 1, 0, 0, 0, .null) := by decide +kernel
theorem f0_167 : am_tab 0 167 = some (.aload_n 3, 1, 0, 0, 0, .null) := by decide +kernel
theorem f0_168 : am_tab 0 168 = some (.invokestatic 92, 3, 1, 3, 2199, .int 9) := by decide +kernel
theorem f0_171 : am_tab 0 171 = some (.istore 5, 2, 0, 0, 0, .null) := by decide +kernel
theorem f0_173 : am_tab 0 173 = some (.aload_n 2, 1, 0, 0, 0, .null) := by decide +kernel
theorem f0_174 : am_tab 0 174 = some (.aload_n 0, 1, 0, 0, 0, .null) := by decide +kernel
theorem f0_175 : am_tab 0 175 = some (.iload 4, 2, 0, 0, 0, .null) := by decide +kernel
theorem f0_177 : am_tab 0 177 = some (.iconst 1, 1, 0, 0, 0, .null) := by decide +kernel
theorem f0_178 : am_tab 0 178 = some (.iadd, 1, 0, 0, 0, .null) := by decide +kernel
theorem f0_179 : am_tab 0 179 = some (.iaload, 1, 0, 0, 0, .null) := by decide +kernel
theorem f0_180 : am_tab 0 180 = some (.invokevirtual 97, 3, 182, 2, 5093, .int 0) := by decide +kernel
theorem f0_183 : am_tab 0 183 = some (.istore 6, 2, 0, 0, 0, .null) := by decide +kernel
theorem f0_185 : am_tab 0 185 = some (.aload_n 2, 1, 0, 0, 0, .null) := by decide +kernel
theorem f0_186 : am_tab 0 186 = some (.invokevirtual 98, 3, 143, 1, 5089, .int 0) := by decide +kernel
theorem f0_189 : am_tab 0 189 = some (.iload 5, 2, 0, 0, 0, .null) := by decide +kernel
theorem f0_191 : am_tab 0 191 = some (.if_icmp .eq 5, 3, 196, 0, 0, .null) := by decide +kernel
theorem f0_194 : am_tab 0 194 = some (.iconst 0, 1, 0, 0, 0, .null) := by decide +kernel
theorem f0_195 : am_tab 0 195 = some (.ireturn, 1, 0, 0, 0, .null) := by decide +kernel
theorem f0_196 : am_tab 0 196 = some (.iload 5, 2, 0, 0, 0, .null) := by decide +kernel
theorem f0_198 : am_tab 0 198 = some (.ifCond .ne 15, 3, 213, 0, 0, .null) := by decide +kernel
theorem f0_201 : am_tab 0 201 = some (.aload_n 3, 1, 0, 0, 0, .null) := by decide +kernel
theorem f0_202 : am_tab 0 202 = some (.iconst 0, 1, 0, 0, 0, .null) := by decide +kernel
theorem f0_203 : am_tab 0 203 = some (.laload, 1, 0, 0, 0, .null) := by decide +kernel
theorem f0_204 : am_tab 0 204 = some (.iload 6, 2, 0, 0, 0, .null) := by decide +kernel
theorem f0_206 : am_tab 0 206 = some (.i2l, 1, 0, 0, 0, .null) := by decide +kernel
theorem f0_207 : am_tab 0 207 = some (.lcmp, 1, 0, 0, 0, .null) := by decide +kernel
theorem f0_208 : am_tab 0 208 = some (.ifCond .eq 5, 3, 213, 0, 0, .null) := by decide +kernel
theorem f0_211 : am_tab 0 211 = some (.iconst 0, 1, 0, 0, 0, .null) := by decide +kernel
theorem f0_212 : am_tab 0 212 = some (.ireturn, 1, 0, 0, 0, .null) := by decide +kernel
theorem f0_213 : am_tab 0 213 = some (.goto 1448, 3, 1661, 0, 0, .null) := by decide +kernel
theorem f0_216 : am_tab 0 216 = some (.aload_n 1, 1, 0, 0, 0, .null) := by decide +kernel
theorem f0_217 : am_tab 0 217 = some (.invokevirtual 101, 3, 108, 1, 2036, .int 0) := by decide +kernel
theorem f0_220 : am_tab 0 220 = some (.aload_n 2, 1, 0, 0, 0, .null) := by decide +kernel
theorem f0_221 : am_tab 0 221 = some (.invokevirtual 104, 3, 183, 1, 5104, .int 0) := by decide +kernel
theorem f0_224 : am_tab 0 224 = some (.if_icmp .eq 1437, 3, 1661, 0, 0, .null) := by decide +kernel
theorem f0_227 : am_tab 0 227 = some (.iconst 0, 1, 0, 0, 0, .null) := by decide +kernel
theorem f0_228 : am_tab 0 228 = some (.ireturn, 1, 0, 0, 0, .null) := by decide +kernel
theorem f0_229 : am_tab 0 229 = some (.aload_n 1, 1, 0, 0, 0, .null) := by decide +kernel
theorem f0_230 : am_tab 0 230 = some (.invokevirtual 105, 3, 109, 1, 2044, .int 0) := by decide +kernel
theorem f0_233 : am_tab 0 233 = some (.aload_n 2, 1, 0, 0, 0, .null) := by decide +kernel
theorem f0_234 : am_tab 0 234 = some (.invokevirtual 108, 3, 191, 1, 5108, .int 0) := by decide +kernel
theorem f0_237 : am_tab 0 237 = some (.if_icmp .eq 1424, 3, 1661, 0, 0, .null) := by decide +kernel
theorem f0_240 : am_tab 0 240 = some (.iconst 0, 1, 0, 0, 0, .null) := by decide +kernel
theorem f0_241 : am_tab 0 241 = some (.ireturn, 1, 0, 0, 0, .null) := by decide +kernel
theorem f0_242 : am_tab 0 242 = some (.aload_n 1, 1, 0, 0, 0, .null) := by decide +kernel
theorem f0_243 : am_tab 0 243 = some (.aload_n 3, 1, 0, 0, 0, .null) := by decide +kernel
theorem f0_244 : am_tab 0 244 = some (.invokestatic 109, 3, 2, 2, 3060, .int 9) := by decide +kernel
theorem f0_247 : am_tab 0 247 = some (.istore 5, 2, 0, 0, 0, .null) := by decide +kernel
theorem f0_249 : am_tab 0 249 = some (.aload_n 2, 1, 0, 0, 0, .null) := by decide +kernel
theorem f0_250 : am_tab 0 250 = some (.invokevirtual 112, 3, 193, 1, 5139, .int 0) := by decide +kernel
theorem f0_253 : am_tab 0 253 = some (.istore 6, 2, 0, 0, 0, .null) := by decide +kernel
theorem f0_255 : am_tab 0 255 = some (.aload_n 2, 1, 0, 0, 0, .null) := by decide +kernel
theorem f0_256 : am_tab 0 256 = some (.invokevirtual 98, 3, 143, 1, 5089, .int 0) := by decide +kernel
theorem f0_259 : am_tab 0 259 = some (.iload 5, 2, 0, 0, 0, .null) := by decide +kernel
theorem f0_261 : am_tab 0 261 = some (.if_icmp .eq 5, 3, 266, 0, 0, .null) := by decide +kernel
theorem f0_264 : am_tab 0 264 = some (.iconst 0, 1, 0, 0, 0, .null) := by decide +kernel
theorem f0_265 : am_tab 0 265 = some (.ireturn, 1, 0, 0, 0, .null) := by decide +kernel
theorem f0_266 : am_tab 0 266 = some (.iload 5, 2, 0, 0, 0, .null) := by decide +kernel
theorem f0_268 : am_tab 0 268 = some (.ifCond .ne 15, 3, 283, 0, 0, .null) := by decide +kernel
theorem f0_271 : am_tab 0 271 = some (.aload_n 3, 1, 0, 0, 0, .null) := by decide +kernel
theorem f0_272 : am_tab 0 272 = some (.iconst 0, 1, 0, 0, 0, .null) := by decide +kernel
theorem f0_273 : am_tab 0 273 = some (.laload, 1, 0, 0, 0, .null) := by decide +kernel
theorem f0_274 : am_tab 0 274 = some (.iload 6, 2, 0, 0, 0, .null) := by decide +kernel
theorem f0_276 : am_tab 0 276 = some (.i2l, 1, 0, 0, 0, .null) := by decide +kernel
theorem f0_277 : am_tab 0 277 = some (.lcmp, 1, 0, 0, 0, .null) := by decide +kernel
theorem f0_278 : am_tab 0 278 = some (.ifCond .eq 5, 3, 283, 0, 0, .null) := by decide +kernel
theorem f0_281 : am_tab 0 281 = some (.iconst 0, 1, 0, 0, 0, .null) := by decide +kernel
theorem f0_282 : am_tab 0 282 = some (.ireturn, 1, 0, 0, 0, .null) := by decide +kernel
theorem f0_283 : am_tab 0 283 = some (.goto 1378, 3, 1661, 0, 0, .null) := by decide +kernel
theorem f0_286 : am_tab 0 286 = some (.aload_n 1, 1, 0, 0, 0, .null) := by decide +kernel
theorem f0_287 : am_tab 0 287 = some (.aload_n 0, 1, 0, 0, 0, .null) := by decide +kernel
theorem f0_288 : am_tab 0 288 = some (.iload 4, 2, 0, 0, 0, .null) := by decide +kernel
theorem f0_290 : am_tab 0 290 = some (.iconst 1, 1, 0, 0, 0, .null) := by decide +kernel
theorem f0_291 : am_tab 0 291 = some (.iadd, 1, 0, 0, 0, .null) := by decide +kernel
theorem f0_292 : am_tab 0 292 = some (.iaload, 1, 0, 0, 0, .null) := by decide +kernel
theorem f0_293 : am_tab 0 293 = some (.aload_n 3, 1, 0, 0, 0, .null) := by decide +kernel
theorem f0_294 : am_tab 0 294 = some (.invokestatic 113, 3, 3, 3, 3181, .int 9) := by decide +kernel
theorem f0_297 : am_tab 0 297 = some (.istore 5, 2, 0, 0, 0, .null) := by decide +kernel
theorem f0_299 : am_tab 0 299 = some (.aload_n 2, 1, 0, 0, 0, .null) := by decide +kernel
theorem f0_300 : am_tab 0 300 = some (.aload_n 0, 1, 0, 0, 0, .null) := by decide +kernel
theorem f0_301 : am_tab 0 301 = some (.iload 4, 2, 0, 0, 0, .null) := by decide +kernel
theorem f0_303 : am_tab 0 303 = some (.iconst 1, 1, 0, 0, 0, .null) := by decide +kernel
theorem f0_304 : am_tab 0 304 = some (.iadd, 1, 0, 0, 0, .null) := by decide +kernel
theorem f0_305 : am_tab 0 305 = some (.iaload, 1, 0, 0, 0, .null) := by decide +kernel
theorem f0_306 : am_tab 0 306 = some (.invokevirtual 115, 3, 195, 2, 6031, .int 0) := by decide +kernel
theorem f0_309 : am_tab 0 309 = some (.istore 6, 2, 0, 0, 0, .null) := by decide +kernel
theorem f0_311 : am_tab 0 311 = some (.aload_n 2, 1, 0, 0, 0, .null) := by decide +kernel
theorem f0_312 : am_tab 0 312 = some (.invokevirtual 98, 3, 143, 1, 5089, .int 0) := by decide +kernel
theorem f0_315 : am_tab 0 315 = some (.iload 5, 2, 0, 0, 0, .null) := by decide +kernel
theorem f0_317 : am_tab 0 317 = some (.if_icmp .eq 5, 3, 322, 0, 0, .null) := by decide +kernel
theorem f0_320 : am_tab 0 320 = some (.iconst 0, 1, 0, 0, 0, .null) := by decide +kernel
theorem f0_321 : am_tab 0 321 = some (.ireturn, 1, 0, 0, 0, .null) := by decide +kernel
theorem f0_322 : am_tab 0 322 = some (.iload 5, 2, 0, 0, 0, .null) := by decide +kernel
theorem f0_324 : am_tab 0 324 = some (.ifCond .ne 15, 3, 339, 0, 0, .null) := by decide +kernel
theorem f0_327 : am_tab 0 327 = some (.aload_n 3, 1, 0, 0, 0, .null) := by decide +kernel
theorem f0_328 : am_tab 0 328 = some (.iconst 0, 1, 0, 0, 0, .null) := by decide +kernel
theorem f0_329 : am_tab 0 329 = some (.laload, 1, 0, 0, 0, .null) := by decide +kernel
theorem f0_330 : am_tab 0 330 = some (.iload 6, 2, 0, 0, 0, .null) := by decide +kernel
theorem f0_332 : am_tab 0 332 = some (.i2l, 1, 0, 0, 0, .null) := by decide +kernel
theorem f0_333 : am_tab 0 333 = some (.lcmp, 1, 0, 0, 0, .null) := by decide +kernel
theorem f0_334 : am_tab 0 334 = some (.ifCond .eq 5, 3, 339, 0, 0, .null) := by decide +kernel
theorem f0_337 : am_tab 0 337 = some (.iconst 0, 1, 0, 0, 0, .null) := by decide +kernel
theorem f0_338 : am_tab 0 338 = some (.ireturn, 1, 0, 0, 0, .null) := by decide +kernel
theorem f0_339 : am_tab 0 339 = some (.goto 1322, 3, 1661, 0, 0, .null) := by decide +kernel
theorem f0_342 : am_tab 0 342 = some (.aload_n 1, 1, 0, 0, 0, .null) := by decide +kernel
theorem f0_343 : am_tab 0 343 = some (.aload_n 0, 1, 0, 0, 0, .null) := by decide +kernel
theorem f0_344 : am_tab 0 344 = some (.iload 4, 2, 0, 0, 0, .null) := by decide +kernel
theorem f0_346 : am_tab 0 346 = some (.iconst 1, 1, 0, 0, 0, .null) := by decide +kernel
theorem f0_347 : am_tab 0 347 = some (.iadd, 1, 0, 0, 0, .null) := by decide +kernel
theorem f0_348 : am_tab 0 348 = some (.iaload, 1, 0, 0, 0, .null) := by decide +kernel
theorem f0_349 : am_tab 0 349 = some (.aload_n 0, 1, 0, 0, 0, .null) := by decide +kernel
theorem f0_350 : am_tab 0 350 = some (.iload 4, 2, 0, 0, 0, .null) := by decide +kernel
theorem f0_352 : am_tab 0 352 = some (.iconst 2, 1, 0, 0, 0, .null) := by decide +kernel
theorem f0_353 : am_tab 0 353 = some (.iadd, 1, 0, 0, 0, .null) := by decide +kernel
theorem f0_354 : am_tab 0 354 = some (.iaload, 1, 0, 0, 0, .null) := by decide +kernel
theorem f0_355 : am_tab 0 355 = some (.aload_n 3, 1, 0, 0, 0, .null) := by decide +kernel
theorem f0_356 : am_tab 0 356 = some (.invokestatic 116, 3, 4, 4, 3195, .int 9) := by decide +kernel
theorem f0_359 : am_tab 0 359 = some (.istore 5, 2, 0, 0, 0, .null) := by decide +kernel
theorem f0_361 : am_tab 0 361 = some (.aload_n 2, 1, 0, 0, 0, .null) := by decide +kernel
theorem f0_362 : am_tab 0 362 = some (.aload_n 0, 1, 0, 0, 0, .null) := by decide +kernel
theorem f0_363 : am_tab 0 363 = some (.iload 4, 2, 0, 0, 0, .null) := by decide +kernel
theorem f0_365 : am_tab 0 365 = some (.iconst 1, 1, 0, 0, 0, .null) := by decide +kernel
theorem f0_366 : am_tab 0 366 = some (.iadd, 1, 0, 0, 0, .null) := by decide +kernel
theorem f0_367 : am_tab 0 367 = some (.iaload, 1, 0, 0, 0, .null) := by decide +kernel
theorem f0_368 : am_tab 0 368 = some (.aload_n 0, 1, 0, 0, 0, .null) := by decide +kernel
theorem f0_369 : am_tab 0 369 = some (.iload 4, 2, 0, 0, 0, .null) := by decide +kernel
theorem f0_371 : am_tab 0 371 = some (.iconst 2, 1, 0, 0, 0, .null) := by decide +kernel
theorem f0_372 : am_tab 0 372 = some (.iadd, 1, 0, 0, 0, .null) := by decide +kernel
theorem f0_373 : am_tab 0 373 = some (.iaload, 1, 0, 0, 0, .null) := by decide +kernel
theorem f0_374 : am_tab 0 374 = some (.invokevirtual 119, 3, 197, 3, 6039, .int 0) := by decide +kernel
theorem f0_377 : am_tab 0 377 = some (.istore 6, 2, 0, 0, 0, .null) := by decide +kernel
theorem f0_379 : am_tab 0 379 = some (.aload_n 2, 1, 0, 0, 0, .null) := by decide +kernel
theorem f0_380 : am_tab 0 380 = some (.invokevirtual 98, 3, 143, 1, 5089, .int 0) := by decide +kernel
theorem f0_383 : am_tab 0 383 = some (.iload 5, 2, 0, 0, 0, .null) := by decide +kernel
theorem f0_385 : am_tab 0 385 = some (.if_icmp .eq 5, 3, 390, 0, 0, .null) := by decide +kernel
theorem f0_388 : am_tab 0 388 = some (.iconst 0, 1, 0, 0, 0, .null) := by decide +kernel
theorem f0_389 : am_tab 0 389 = some (.ireturn, 1, 0, 0, 0, .null) := by decide +kernel
theorem f0_390 : am_tab 0 390 = some (.iload 5, 2, 0, 0, 0, .null) := by decide +kernel
theorem f0_392 : am_tab 0 392 = some (.ifCond .ne 15, 3, 407, 0, 0, .null) := by decide +kernel
theorem f0_395 : am_tab 0 395 = some (.aload_n 3, 1, 0, 0, 0, .null) := by decide +kernel
theorem f0_396 : am_tab 0 396 = some (.iconst 0, 1, 0, 0, 0, .null) := by decide +kernel
theorem f0_397 : am_tab 0 397 = some (.laload, 1, 0, 0, 0, .null) := by decide +kernel
theorem f0_398 : am_tab 0 398 = some (.iload 6, 2, 0, 0, 0, .null) := by decide +kernel
theorem f0_400 : am_tab 0 400 = some (.i2l, 1, 0, 0, 0, .null) := by decide +kernel
theorem f0_401 : am_tab 0 401 = some (.lcmp, 1, 0, 0, 0, .null) := by decide +kernel
theorem f0_402 : am_tab 0 402 = some (.ifCond .eq 5, 3, 407, 0, 0, .null) := by decide +kernel
theorem f0_405 : am_tab 0 405 = some (.iconst 0, 1, 0, 0, 0, .null) := by decide +kernel
theorem f0_406 : am_tab 0 406 = some (.ireturn, 1, 0, 0, 0, .null) := by decide +kernel
theorem f0_407 : am_tab 0 407 = some (.goto 1254, 3, 1661, 0, 0, .null) := by decide +kernel
theorem f0_410 : am_tab 0 410 = some (.aload_n 1, 1, 0, 0, 0, .null) := by decide +kernel
theorem f0_411 : am_tab 0 411 = some (.aload_n 0, 1, 0, 0, 0, .null) := by decide +kernel
theorem f0_412 : am_tab 0 412 = some (.iload 4, 2, 0, 0, 0, .null) := by decide +kernel
theorem f0_414 : am_tab 0 414 = some (.iconst 1, 1, 0, 0, 0, .null) := by decide +kernel
theorem f0_415 : am_tab 0 415 = some (.iadd, 1, 0, 0, 0, .null) := by decide +kernel
theorem f0_416 : am_tab 0 416 = some (.iaload, 1, 0, 0, 0, .null) := by decide +kernel
theorem f0_417 : am_tab 0 417 = some (.aload_n 0, 1, 0, 0, 0, .null) := by decide +kernel
theorem f0_418 : am_tab 0 418 = some (.iload 4, 2, 0, 0, 0, .null) := by decide +kernel
theorem f0_420 : am_tab 0 420 = some (.iconst 2, 1, 0, 0, 0, .null) := by decide +kernel
theorem f0_421 : am_tab 0 421 = some (.iadd, 1, 0, 0, 0, .null) := by decide +kernel
theorem f0_422 : am_tab 0 422 = some (.iaload, 1, 0, 0, 0, .null) := by decide +kernel
theorem f0_423 : am_tab 0 423 = some (.aload_n 3, 1, 0, 0, 0, .null) := by decide +kernel
theorem f0_424 : am_tab 0 424 = some (.invokestatic 120, 3, 5, 4, 3229, .int 9) := by decide +kernel
theorem f0_427 : am_tab 0 427 = some (.istore 5, 2, 0, 0, 0, .null) := by decide +kernel
theorem f0_429 : am_tab 0 429 = some (.aload_n 2, 1, 0, 0, 0, .null) := by decide +kernel
theorem f0_430 : am_tab 0 430 = some (.aload_n 0, 1, 0, 0, 0, .null) := by decide +kernel
theorem f0_431 : am_tab 0 431 = some (.iload 4, 2, 0, 0, 0, .null) := by decide +kernel
theorem f0_433 : am_tab 0 433 = some (.iconst 1, 1, 0, 0, 0, .null) := by decide +kernel
theorem f0_434 : am_tab 0 434 = some (.iadd, 1, 0, 0, 0, .null) := by decide +kernel
theorem f0_435 : am_tab 0 435 = some (.iaload, 1, 0, 0, 0, .null) := by decide +kernel
theorem f0_436 : am_tab 0 436 = some (.aload_n 0, 1, 0, 0, 0, .null) := by decide +kernel
theorem f0_437 : am_tab 0 437 = some (.iload 4, 2, 0, 0, 0, .null) := by decide +kernel
theorem f0_439 : am_tab 0 439 = some (.iconst 2, 1, 0, 0, 0, .null) := by decide +kernel
theorem f0_440 : am_tab 0 440 = some (.iadd, 1, 0, 0, 0, .null) := by decide +kernel
theorem f0_441 : am_tab 0 441 = some (.iaload, 1, 0, 0, 0, .null) := by decide +kernel
theorem f0_442 : am_tab 0 442 = some (.invokevirtual 122, 3, 199, 3, 6047, .int 0) := by decide +kernel
theorem f0_445 : am_tab 0 445 = some (.istore 6, 2, 0, 0, 0, .null) := by decide +kernel
theorem f0_447 : am_tab 0 447 = some (.aload_n 2, 1, 0, 0, 0, .null) := by decide +kernel
theorem f0_448 : am_tab 0 448 = some (.invokevirtual 98, 3, 143, 1, 5089, .int 0) := by decide +kernel
theorem f0_451 : am_tab 0 451 = some (.iload 5, 2, 0, 0, 0, .null) := by decide +kernel
theorem f0_453 : am_tab 0 453 = some (.if_icmp .eq 5, 3, 458, 0, 0, .null) := by decide +kernel
theorem f0_456 : am_tab 0 456 = some (.iconst 0, 1, 0, 0, 0, .null) := by decide +kernel
theorem f0_457 : am_tab 0 457 = some (.ireturn, 1, 0, 0, 0, .null) := by decide +kernel
theorem f0_458 : am_tab 0 458 = some (.iload 5, 2, 0, 0, 0, .null) := by decide +kernel
theorem f0_460 : am_tab 0 460 = some (.ifCond .ne 15, 3, 475, 0, 0, .null) := by decide +kernel
theorem f0_463 : am_tab 0 463 = some (.aload_n 3, 1, 0, 0, 0, .null) := by decide +kernel
theorem f0_464 : am_tab 0 464 = some (.iconst 0, 1, 0, 0, 0, .null) := by decide +kernel
theorem f0_465 : am_tab 0 465 = some (.laload, 1, 0, 0, 0, .null) := by decide +kernel
theorem f0_466 : am_tab 0 466 = some (.iload 6, 2, 0, 0, 0, .null) := by decide +kernel
theorem f0_468 : am_tab 0 468 = some (.i2l, 1, 0, 0, 0, .null) := by decide +kernel
theorem f0_469 : am_tab 0 469 = some (.lcmp, 1, 0, 0, 0, .null) := by decide +kernel
theorem f0_470 : am_tab 0 470 = some (.ifCond .eq 5, 3, 475, 0, 0, .null) := by decide +kernel
theorem f0_473 : am_tab 0 473 = some (.iconst 0, 1, 0, 0, 0, .null) := by decide +kernel
theorem f0_474 : am_tab 0 474 = some (.ireturn, 1, 0, 0, 0, .null) := by decide +kernel
theorem f0_475 : am_tab 0 475 = some (.goto 1186, 3, 1661, 0, 0, .null) := by decide +kernel
theorem f0_478 : am_tab 0 478 = some (.aload_n 1, 1, 0, 0, 0, .null) := by decide +kernel
theorem f0_479 : am_tab 0 479 = some (.aload_n 0, 1, 0, 0, 0, .null) := by decide +kernel
theorem f0_480 : am_tab 0 480 = some (.iload 4, 2, 0, 0, 0, .null) := by decide +kernel
theorem f0_482 : am_tab 0 482 = some (.iconst 1, 1, 0, 0, 0, .null) := by decide +kernel
theorem f0_483 : am_tab 0 483 = some (.iadd, 1, 0, 0, 0, .null) := by decide +kernel
theorem f0_484 : am_tab 0 484 = some (.iaload, 1, 0, 0, 0, .null) := by decide +kernel
theorem f0_485 : am_tab 0 485 = some (.aload_n 0, 1, 0, 0, 0, .null) := by decide +kernel
theorem f0_486 : am_tab 0 486 = some (.iload 4, 2, 0, 0, 0, .null) := by decide +kernel
theorem f0_488 : am_tab 0 488 = some (.iconst 2, 1, 0, 0, 0, .null) := by decide +kernel
theorem f0_489 : am_tab 0 489 = some (.iadd, 1, 0, 0, 0, .null) := by decide +kernel
theorem f0_490 : am_tab 0 490 = some (.iaload, 1, 0, 0, 0, .null) := by decide +kernel
theorem f0_491 : am_tab 0 491 = some (.aload_n 3, 1, 0, 0, 0, .null) := by decide +kernel
theorem f0_492 : am_tab 0 492 = some (.invokestatic 123, 3, 6, 4, 4004, .int 9) := by decide +kernel
theorem f0_495 : am_tab 0 495 = some (.istore 5, 2, 0, 0, 0, .null) := by decide +kernel
theorem f0_497 : am_tab 0 497 = some (.aload_n 2, 1, 0, 0, 0, .null) := by decide +kernel
theorem f0_498 : am_tab 0 498 = some (.aload_n 0, 1, 0, 0, 0, .null) := by decide +kernel
theorem f0_499 : am_tab 0 499 = some (.iload 4, 2, 0, 0, 0, .null) := by decide +kernel
theorem f0_501 : am_tab 0 501 = some (.iconst 1, 1, 0, 0, 0, .null) := by decide +kernel
theorem f0_502 : am_tab 0 502 = some (.iadd, 1, 0, 0, 0, .null) := by decide +kernel
theorem f0_503 : am_tab 0 503 = some (.iaload, 1, 0, 0, 0, .null) := by decide +kernel
theorem f0_504 : am_tab 0 504 = some (.aload_n 0, 1, 0, 0, 0, .null) := by decide +kernel
theorem f0_505 : am_tab 0 505 = some (.iload 4, 2, 0, 0, 0, .null) := by decide +kernel
theorem f0_507 : am_tab 0 507 = some (.iconst 2, 1, 0, 0, 0, .null) := by decide +kernel
theorem f0_508 : am_tab 0 508 = some (.iadd, 1, 0, 0, 0, .null) := by decide +kernel
theorem f0_509 : am_tab 0 509 = some (.iaload, 1, 0, 0, 0, .null) := by decide +kernel
theorem f0_510 : am_tab 0 510 = some (.invokevirtual 125, 3, 200, 3, 6055, .int 0) := by decide +kernel
theorem f0_513 : am_tab 0 513 = some (.istore 6, 2, 0, 0, 0, .null) := by decide +kernel
theorem f0_515 : am_tab 0 515 = some (.aload_n 2, 1, 0, 0, 0, .null) := by decide +kernel
theorem f0_516 : am_tab 0 516 = some (.invokevirtual 98, 3, 143, 1, 5089, .int 0) := by decide +kernel
theorem f0_519 : am_tab 0 519 = some (.iload 5, 2, 0, 0, 0, .null) := by decide +kernel
theorem f0_521 : am_tab 0 521 = some (.if_icmp .eq 5, 3, 526, 0, 0, .null) := by decide +kernel
theorem f0_524 : am_tab 0 524 = some (.iconst 0, 1, 0, 0, 0, .null) := by decide +kernel
theorem f0_525 : am_tab 0 525 = some (.ireturn, 1, 0, 0, 0, .null) := by decide +kernel
theorem f0_526 : am_tab 0 526 = some (.iload 5, 2, 0, 0, 0, .null) := by decide +kernel
theorem f0_528 : am_tab 0 528 = some (.ifCond .ne 15, 3, 543, 0, 0, .null) := by decide +kernel
theorem f0_531 : am_tab 0 531 = some (.aload_n 3, 1, 0, 0, 0, .null) := by decide +kernel
theorem f0_532 : am_tab 0 532 = some (.iconst 0, 1, 0, 0, 0, .null) := by decide +kernel
theorem f0_533 : am_tab 0 533 = some (.laload, 1, 0, 0, 0, .null) := by decide +kernel
theorem f0_534 : am_tab 0 534 = some (.iload 6, 2, 0, 0, 0, .null) := by decide +kernel
theorem f0_536 : am_tab 0 536 = some (.i2l, 1, 0, 0, 0, .null) := by decide +kernel
theorem f0_537 : am_tab 0 537 = some (.lcmp, 1, 0, 0, 0, .null) := by decide +kernel
theorem f0_538 : am_tab 0 538 = some (.ifCond .eq 5, 3, 543, 0, 0, .null) := by decide +kernel
theorem f0_541 : am_tab 0 541 = some (.iconst 0, 1, 0, 0, 0, .null) := by decide +kernel
theorem f0_542 : am_tab 0 542 = some (.ireturn, 1, 0, 0, 0, .null) := by decide +kernel
theorem f0_543 : am_tab 0 543 = some (.goto 1118, 3, 1661, 0, 0, .null) := by decide +kernel
theorem f0_546 : am_tab 0 546 = some (.aload_n 1, 1, 0, 0, 0, .null) := by decide +kernel
theorem f0_547 : am_tab 0 547 = some (.aload_n 0, 1, 0, 0, 0, .null) := by decide +kernel
theorem f0_548 : am_tab 0 548 = some (.iload 4, 2, 0, 0, 0, .null) := by decide +kernel
theorem f0_550 : am_tab 0 550 = some (.iconst 1, 1, 0, 0, 0, .null) := by decide +kernel
theorem f0_551 : am_tab 0 551 = some (.iadd, 1, 0, 0, 0, .null) := by decide +kernel
theorem f0_552 : am_tab 0 552 = some (.iaload, 1, 0, 0, 0, .null) := by decide +kernel
theorem f0_553 : am_tab 0 553 = some (.aload_n 0, 1, 0, 0, 0, .null) := by decide +kernel
theorem f0_554 : am_tab 0 554 = some (.iload 4, 2, 0, 0, 0, .null) := by decide +kernel
theorem f0_556 : am_tab 0 556 = some (.iconst 2, 1, 0, 0, 0, .null) := by decide +kernel
theorem f0_557 : am_tab 0 557 = some (.iadd, 1, 0, 0, 0, .null) := by decide +kernel
theorem f0_558 : am_tab 0 558 = some (.iaload, 1, 0, 0, 0, .null) := by decide +kernel
theorem f0_559 : am_tab 0 559 = some (.ifCond .eq 7, 3, 566, 0, 0, .null) := by decide +kernel
theorem f0_562 : am_tab 0 562 = some (.iconst 1, 1, 0, 0, 0, .null) := by decide +kernel
theorem f0_563 : am_tab 0 563 = some (.goto 4, 3, 567, 0, 0, .null) := by decide +kernel
theorem f0_566 : am_tab 0 566 = some (.iconst 0, 1, 0, 0, 0, .null) := by decide +kernel
theorem f0_567 : am_tab 0 567 = some (.aload_n 3, 1, 0, 0, 0, .null) := by decide +kernel
theorem f0_568 : am_tab 0 568 = some (.invokestatic 126, 3, 7, 4, 4014, .int 9) := by decide +kernel
theorem f0_571 : am_tab 0 571 = some (.istore 5, 2, 0, 0, 0, .null) := by decide +kernel
theorem f0_573 : am_tab 0 573 = some (.aload_n 2, 1, 0, 0, 0, .null) := by decide +kernel
theorem f0_574 : am_tab 0 574 = some (.aload_n 0, 1, 0, 0, 0, .null) := by decide +kernel
theorem f0_575 : am_tab 0 575 = some (.iload 4, 2, 0, 0, 0, .null) := by decide +kernel
theorem f0_577 : am_tab 0 577 = some (.iconst 1, 1, 0, 0, 0, .null) := by decide +kernel
theorem f0_578 : am_tab 0 578 = some (.iadd, 1, 0, 0, 0, .null) := by decide +kernel
theorem f0_579 : am_tab 0 579 = some (.iaload, 1, 0, 0, 0, .null) := by decide +kernel
theorem f0_580 : am_tab 0 580 = some (.aload_n 0, 1, 0, 0, 0, .null) := by decide +kernel
theorem f0_581 : am_tab 0 581 = some (.iload 4, 2, 0, 0, 0, .null) := by decide +kernel
theorem f0_583 : am_tab 0 583 = some (.iconst 2, 1, 0, 0, 0, .null) := by decide +kernel
theorem f0_584 : am_tab 0 584 = some (.iadd, 1, 0, 0, 0, .null) := by decide +kernel
theorem f0_585 : am_tab 0 585 = some (.iaload, 1, 0, 0, 0, .null) := by decide +kernel
theorem f0_586 : am_tab 0 586 = some (.ifCond .eq 7, 3, 593, 0, 0, .null) := by decide +kernel
theorem f0_589 : am_tab 0 589 = some (.iconst 1, 1, 0, 0, 0, .null) := by decide +kernel
theorem f0_590 : am_tab 0 590 = some (.goto 4, 3, 594, 0, 0, .null) := by decide +kernel
theorem f0_593 : am_tab 0 593 = some (.iconst 0, 1, 0, 0, 0, .null) := by decide +kernel
theorem f0_594 : am_tab 0 594 = some (.invokevirtual 129, 3, 201, 3, 6063, .int 0) := by decide +kernel
theorem f0_597 : am_tab 0 597 = some (.istore 6, 2, 0, 0, 0, .null) := by decide +kernel
theorem f0_599 : am_tab 0 599 = some (.aload_n 2, 1, 0, 0, 0, .null) := by decide +kernel
theorem f0_600 : am_tab 0 600 = some (.invokevirtual 98, 3, 143, 1, 5089, .int 0) := by decide +kernel
theorem f0_603 : am_tab 0 603 = some (.iload 5, 2, 0, 0, 0, .null) := by decide +kernel
theorem f0_605 : am_tab 0 605 = some (.if_icmp .eq 5, 3, 610, 0, 0, .null) := by decide +kernel
theorem f0_608 : am_tab 0 608 = some (.iconst 0, 1, 0, 0, 0, .null) := by decide +kernel
theorem f0_609 : am_tab 0 609 = some (.ireturn, 1, 0, 0, 0, .null) := by decide +kernel
theorem f0_610 : am_tab 0 610 = some (.iload 5, 2, 0, 0, 0, .null) := by decide +kernel
theorem f0_612 : am_tab 0 612 = some (.ifCond .ne 15, 3, 627, 0, 0, .null) := by decide +kernel
theorem f0_615 : am_tab 0 615 = some (.aload_n 3, 1, 0, 0, 0, .null) := by decide +kernel
theorem f0_616 : am_tab 0 616 = some (.iconst 0, 1, 0, 0, 0, .null) := by decide +kernel
theorem f0_617 : am_tab 0 617 = some (.laload, 1, 0, 0, 0, .null) := by decide +kernel
theorem f0_618 : am_tab 0 618 = some (.iload 6, 2, 0, 0, 0, .null) := by decide +kernel
theorem f0_620 : am_tab 0 620 = some (.i2l, 1, 0, 0, 0, .null) := by decide +kernel
theorem f0_621 : am_tab 0 621 = some (.lcmp, 1, 0, 0, 0, .null) := by decide +kernel
theorem f0_622 : am_tab 0 622 = some (.ifCond .eq 5, 3, 627, 0, 0, .null) := by decide +kernel
theorem f0_625 : am_tab 0 625 = some (.iconst 0, 1, 0, 0, 0, .null) := by decide +kernel
theorem f0_626 : am_tab 0 626 = some (.ireturn, 1, 0, 0, 0, .null) := by decide +kernel
theorem f0_627 : am_tab 0 627 = some (.goto 1034, 3, 1661, 0, 0, .null) := by decide +kernel
theorem f0_630 : am_tab 0 630 = some (.aload_n 1, 1, 0, 0, 0, .null) := by decide +kernel
theorem f0_631 : am_tab 0 631 = some (.aload_n 0, 1, 0, 0, 0, .null) := by decide +kernel
theorem f0_632 : am_tab 0 632 = some (.iload 4, 2, 0, 0, 0, .null) := by decide +kernel
theorem f0_634 : am_tab 0 634 = some (.iconst 1, 1, 0, 0, 0, .null) := by decide +kernel
theorem f0_635 : am_tab 0 635 = some (.iadd, 1, 0, 0, 0, .null) := by decide +kernel
theorem f0_636 : am_tab 0 636 = some (.iaload, 1, 0, 0, 0, .null) := by decide +kernel
theorem f0_637 : am_tab 0 637 = some (.aload_n 0, 1, 0, 0, 0, .null) := by decide +kernel
theorem f0_638 : am_tab 0 638 = some (.iload 4, 2, 0, 0, 0, .null) := by decide +kernel
theorem f0_640 : am_tab 0 640 = some (.iconst 2, 1, 0, 0, 0, .null) := by decide +kernel
theorem f0_641 : am_tab 0 641 = some (.iadd, 1, 0, 0, 0, .null) := by decide +kernel
theorem f0_642 : am_tab 0 642 = some (.iaload, 1, 0, 0, 0, .null) := by decide +kernel
theorem f0_643 : am_tab 0 643 = some (.ifCond .eq 7, 3, 650, 0, 0, .null) := by decide +kernel
theorem f0_646 : am_tab 0 646 = some (.iconst 1, 1, 0, 0, 0, .null) := by decide +kernel
theorem f0_647 : am_tab 0 647 = some (.goto 4, 3, 651, 0, 0, .null) := by decide +kernel
theorem f0_650 : am_tab 0 650 = some (.iconst 0, 1, 0, 0, 0, .null) := by decide +kernel
theorem f0_651 : am_tab 0 651 = some (.aload_n 3, 1, 0, 0, 0, .null) := by decide +kernel
theorem f0_652 : am_tab 0 652 = some (.invokestatic 130, 3, 8, 4, 4022, .int 9) := by decide +kernel
theorem f0_655 : am_tab 0 655 = some (.istore 5, 2, 0, 0, 0, .null) := by decide +kernel
theorem f0_657 : am_tab 0 657 = some (.aload_n 2, 1, 0, 0, 0, .null) := by decide +kernel
theorem f0_658 : am_tab 0 658 = some (.aload_n 0, 1, 0, 0, 0, .null) := by decide +kernel
theorem f0_659 : am_tab 0 659 = some (.iload 4, 2, 0, 0, 0, .null) := by decide +kernel
theorem f0_661 : am_tab 0 661 = some (.iconst 1, 1, 0, 0, 0, .null) := by decide +kernel
theorem f0_662 : am_tab 0 662 = some (.iadd, 1, 0, 0, 0, .null) := by decide +kernel
theorem f0_663 : am_tab 0 663 = some (.iaload, 1, 0, 0, 0, .null) := by decide +kernel
theorem f0_664 : am_tab 0 664 = some (.aload_n 0, 1, 0, 0, 0, .null) := by decide +kernel
theorem f0_665 : am_tab 0 665 = some (.iload 4, 2, 0, 0, 0, .null) := by decide +kernel
theorem f0_667 : am_tab 0 667 = some (.iconst 2, 1, 0, 0, 0, .null) := by decide +kernel
theorem f0_668 : am_tab 0 668 = some (.iadd, 1, 0, 0, 0, .null) := by decide +kernel
theorem f0_669 : am_tab 0 669 = some (.iaload, 1, 0, 0, 0, .null) := by decide +kernel
theorem f0_670 : am_tab 0 670 = some (.ifCond .eq 7, 3, 677, 0, 0, .null) := by decide +kernel
theorem f0_673 : am_tab 0 673 = some (.iconst 1, 1, 0, 0, 0, .null) := by decide +kernel
theorem f0_674 : am_tab 0 674 = some (.goto 4, 3, 678, 0, 0, .null) := by decide +kernel
theorem f0_677 : am_tab 0 677 = some (.iconst 0, 1, 0, 0, 0, .null) := by decide +kernel
theorem f0_678 : am_tab 0 678 = some (.invokevirtual 132, 3, 202, 3, 6067, .int 0) := by decide +kernel
theorem f0_681 : am_tab 0 681 = some (.istore 6, 2, 0, 0, 0, .null) := by decide +kernel
theorem f0_683 : am_tab 0 683 = some (.aload_n 2, 1, 0, 0, 0, .null) := by decide +kernel
theorem f0_684 : am_tab 0 684 = some (.invokevirtual 98, 3, 143, 1, 5089, .int 0) := by decide +kernel
theorem f0_687 : am_tab 0 687 = some (.iload 5, 2, 0, 0, 0, .null) := by decide +kernel
theorem f0_689 : am_tab 0 689 = some (.if_icmp .eq 5, 3, 694, 0, 0, .null) := by decide +kernel
theorem f0_692 : am_tab 0 692 = some (.iconst 0, 1, 0, 0, 0, .null) := by decide +kernel
theorem f0_693 : am_tab 0 693 = some (.ireturn, 1, 0, 0, 0, .null) := by decide +kernel
theorem f0_694 : am_tab 0 694 = some (.iload 5, 2, 0, 0, 0, .null) := by decide +kernel
theorem f0_696 : am_tab 0 696 = some (.ifCond .ne 15, 3, 711, 0, 0, .null) := by decide +kernel
theorem f0_699 : am_tab 0 699 = some (.aload_n 3, 1, 0, 0, 0, .null) := by decide +kernel
theorem f0_700 : am_tab 0 700 = some (.iconst 0, 1, 0, 0, 0, .null) := by decide +kernel
theorem f0_701 : am_tab 0 701 = some (.laload, 1, 0, 0, 0, .null) := by decide +kernel
theorem f0_702 : am_tab 0 702 = some (.iload 6, 2, 0, 0, 0, .null) := by decide +kernel
theorem f0_704 : am_tab 0 704 = some (.i2l, 1, 0, 0, 0, .null) := by decide +kernel
theorem f0_705 : am_tab 0 705 = some (.lcmp, 1, 0, 0, 0, .null) := by decide +kernel
theorem f0_706 : am_tab 0 706 = some (.ifCond .eq 5, 3, 711, 0, 0, .null) := by decide +kernel
theorem f0_709 : am_tab 0 709 = some (.iconst 0, 1, 0, 0, 0, .null) := by decide +kernel
theorem f0_710 : am_tab 0 710 = some (.ireturn, 1, 0, 0, 0, .null) := by decide +kernel
theorem f0_711 : am_tab 0 711 = some (.goto 950, 3, 1661, 0, 0, .null) := by decide +kernel
theorem f0_714 : am_tab 0 714 = some (.aload_n 1, 1, 0, 0, 0, .null) := by decide +kernel
theorem f0_715 : am_tab 0 715 = some (.aload_n 0, 1, 0, 0, 0, .null) := by decide +kernel
theorem f0_716 : am_tab 0 716 = some (.iload 4, 2, 0, 0, 0, .null) := by decide +kernel
theorem f0_718 : am_tab 0 718 = some (.iconst 1, 1, 0, 0, 0, .null) := by decide +kernel
theorem f0_719 : am_tab 0 719 = some (.iadd, 1, 0, 0, 0, .null) := by decide +kernel
theorem f0_720 : am_tab 0 720 = some (.iaload, 1, 0, 0, 0, .null) := by decide +kernel
theorem f0_721 : am_tab 0 721 = some (.aload_n 3, 1, 0, 0, 0, .null) := by decide +kernel
theorem f0_722 : am_tab 0 722 = some (.invokestatic 133, 3, 9, 3, 4034, .int 9) := by decide +kernel
theorem f0_725 : am_tab 0 725 = some (.istore 5, 2, 0, 0, 0, .null) := by decide +kernel
theorem f0_727 : am_tab 0 727 = some (.aload_n 2, 1, 0, 0, 0, .null) := by decide +kernel
theorem f0_728 : am_tab 0 728 = some (.aload_n 0, 1, 0, 0, 0, .null) := by decide +kernel
theorem f0_729 : am_tab 0 729 = some (.iload 4, 2, 0, 0, 0, .null) := by decide +kernel
theorem f0_731 : am_tab 0 731 = some (.iconst 1, 1, 0, 0, 0, .null) := by decide +kernel
theorem f0_732 : am_tab 0 732 = some (.iadd, 1, 0, 0, 0, .null) := by decide +kernel
theorem f0_733 : am_tab 0 733 = some (.iaload, 1, 0, 0, 0, .null) := by decide +kernel
theorem f0_734 : am_tab 0 734 = some (.invokevirtual 135, 3, 203, 2, 6071, .int 0) := by decide +kernel
theorem f0_737 : am_tab 0 737 = some (.istore 6, 2, 0, 0, 0, .null) := by decide +kernel
theorem f0_739 : am_tab 0 739 = some (.aload_n 2, 1, 0, 0, 0, .null) := by decide +kernel
theorem f0_740 : am_tab 0 740 = some (.invokevirtual 98, 3, 143, 1, 5089, .int 0) := by decide +kernel
theorem f0_743 : am_tab 0 743 = some (.iload 5, 2, 0, 0, 0, .null) := by decide +kernel
theorem f0_745 : am_tab 0 745 = some (.if_icmp .eq 5, 3, 750, 0, 0, .null) := by decide +kernel
theorem f0_748 : am_tab 0 748 = some (.iconst 0, 1, 0, 0, 0, .null) := by decide +kernel
theorem f0_749 : am_tab 0 749 = some (.ireturn, 1, 0, 0, 0, .null) := by decide +kernel
theorem f0_750 : am_tab 0 750 = some (.iload 5, 2, 0, 0, 0, .null) := by decide +kernel
theorem f0_752 : am_tab 0 752 = some (.ifCond .ne 15, 3, 767, 0, 0, .null) := by decide +kernel
theorem f0_755 : am_tab 0 755 = some (.aload_n 3, 1, 0, 0, 0, .null) := by decide +kernel
theorem f0_756 : am_tab 0 756 = some (.iconst 0, 1, 0, 0, 0, .null) := by decide +kernel
theorem f0_757 : am_tab 0 757 = some (.laload, 1, 0, 0, 0, .null) := by decide +kernel
theorem f0_758 : am_tab 0 758 = some (.iload 6, 2, 0, 0, 0, .null) := by decide +kernel
theorem f0_760 : am_tab 0 760 = some (.i2l, 1, 0, 0, 0, .null) := by decide +kernel
theorem f0_761 : am_tab 0 761 = some (.lcmp, 1, 0, 0, 0, .null) := by decide +kernel
theorem f0_762 : am_tab 0 762 = some (.ifCond .eq 5, 3, 767, 0, 0, .null) := by decide +kernel
theorem f0_765 : am_tab 0 765 = some (.iconst 0, 1, 0, 0, 0, .null) := by decide +kernel
theorem f0_766 : am_tab 0 766 = some (.ireturn, 1, 0, 0, 0, .null) := by decide +kernel
theorem f0_767 : am_tab 0 767 = some (.goto 894, 3, 1661, 0, 0, .null) := by decide +kernel
theorem f0_770 : am_tab 0 770 = some (.aload_n 1, 1, 0, 0, 0, .null) := by decide +kernel
theorem f0_771 : am_tab 0 771 = some (.aload_n 0, 1, 0, 0, 0, .null) := by decide +kernel
theorem f0_772 : am_tab 0 772 = some (.iload 4, 2, 0, 0, 0, .null) := by decide +kernel
theorem f0_774 : am_tab 0 774 = some (.iconst 1, 1, 0, 0, 0, .null) := by decide +kernel
theorem f0_775 : am_tab 0 775 = some (.iadd, 1, 0, 0, 0, .null) := by decide +kernel
theorem f0_776 : am_tab 0 776 = some (.iaload, 1, 0, 0, 0, .null) := by decide +kernel
theorem f0_777 : am_tab 0 777 = some (.aload_n 0, 1, 0, 0, 0, .null) := by decide +kernel
theorem f0_778 : am_tab 0 778 = some (.iload 4, 2, 0, 0, 0, .null) := by decide +kernel
theorem f0_780 : am_tab 0 780 = some (.iconst 2, 1, 0, 0, 0, .null) := by decide +kernel
theorem f0_781 : am_tab 0 781 = some (.iadd, 1, 0, 0, 0, .null) := by decide +kernel
theorem f0_782 : am_tab 0 782 = some (.iaload, 1, 0, 0, 0, .null) := by decide +kernel
theorem f0_783 : am_tab 0 783 = some (.aload_n 3, 1, 0, 0, 0, .null) := by decide +kernel
theorem f0_784 : am_tab 0 784 = some (.invokestatic 136, 3, 10, 4, 4045, .int 9) := by decide +kernel
theorem f0_787 : am_tab 0 787 = some (.istore 5, 2, 0, 0, 0, .null) := by decide +kernel
theorem f0_789 : am_tab 0 789 = some (.aload_n 2, 1, 0, 0, 0, .null) := by decide +kernel
theorem f0_790 : am_tab 0 790 = some (.aload_n 0, 1, 0, 0, 0, .null) := by decide +kernel
theorem f0_791 : am_tab 0 791 = some (.iload 4, 2, 0, 0, 0, .null) := by decide +kernel
theorem f0_793 : am_tab 0 793 = some (.iconst 1, 1, 0, 0, 0, .null) := by decide +kernel
theorem f0_794 : am_tab 0 794 = some (.iadd, 1, 0, 0, 0, .null) := by decide +kernel
theorem f0_795 : am_tab 0 795 = some (.iaload, 1, 0, 0, 0, .null) := by decide +kernel
theorem f0_796 : am_tab 0 796 = some (.aload_n 0, 1, 0, 0, 0, .null) := by decide +kernel
theorem f0_797 : am_tab 0 797 = some (.iload 4, 2, 0, 0, 0, .null) := by decide +kernel
theorem f0_799 : am_tab 0 799 = some (.iconst 2, 1, 0, 0, 0, .null) := by decide +kernel
theorem f0_800 : am_tab 0 800 = some (.iadd, 1, 0, 0, 0, .null) := by decide +kernel
theorem f0_801 : am_tab 0 801 = some (.iaload, 1, 0, 0, 0, .null) := by decide +kernel
theorem f0_802 : am_tab 0 802 = some (.invokevirtual 138, 3, 204, 3, 6075, .int 0) := by decide +kernel
theorem f0_805 : am_tab 0 805 = some (.istore 6, 2, 0, 0, 0, .null) := by decide +kernel
theorem f0_807 : am_tab 0 807 = some (.aload_n 2, 1, 0, 0, 0, .null) := by decide +kernel
theorem f0_808 : am_tab 0 808 = some (.invokevirtual 98, 3, 143, 1, 5089, .int 0) := by decide +kernel
theorem f0_811 : am_tab 0 811 = some (.iload 5, 2, 0, 0, 0, .null) := by decide +kernel
theorem f0_813 : am_tab 0 813 = some (.if_icmp .eq 5, 3, 818, 0, 0, .null) := by decide +kernel
theorem f0_816 : am_tab 0 816 = some (.iconst 0, 1, 0, 0, 0, .null) := by decide +kernel
theorem f0_817 : am_tab 0 817 = some (.ireturn, 1, 0, 0, 0, .null) := by decide +kernel
theorem f0_818 : am_tab 0 818 = some (.iload 5, 2, 0, 0, 0, .null) := by decide +kernel
theorem f0_820 : am_tab 0 820 = some (.ifCond .ne 15, 3, 835, 0, 0, .null) := by decide +kernel
theorem f0_823 : am_tab 0 823 = some (.aload_n 3, 1, 0, 0, 0, .null) := by decide +kernel
theorem f0_824 : am_tab 0 824 = some (.iconst 0, 1, 0, 0, 0, .null) := by decide +kernel
theorem f0_825 : am_tab 0 825 = some (.laload, 1, 0, 0, 0, .null) := by decide +kernel
theorem f0_826 : am_tab 0 826 = some (.iload 6, 2, 0, 0, 0, .null) := by decide +kernel
theorem f0_828 : am_tab 0 828 = some (.i2l, 1, 0, 0, 0, .null) := by decide +kernel
theorem f0_829 : am_tab 0 829 = some (.lcmp, 1, 0, 0, 0, .null) := by decide +kernel
theorem f0_830 : am_tab 0 830 = some (.ifCond .eq 5, 3, 835, 0, 0, .null) := by decide +kernel
theorem f0_833 : am_tab 0 833 = some (.iconst 0, 1, 0, 0, 0, .null) := by decide +kernel
theorem f0_834 : am_tab 0 834 = some (.ireturn, 1, 0, 0, 0, .null) := by decide +kernel
theorem f0_835 : am_tab 0 835 = some (.goto 826, 3, 1661, 0, 0, .null) := by decide +kernel
theorem f0_838 : am_tab 0 838 = some (.aload_n 1, 1, 0, 0, 0, .null) := by decide +kernel
theorem f0_839 : am_tab 0 839 = some (.invokevirtual 139, 3, 119, 1, 2076, .int 0) := by decide +kernel
theorem f0_842 : am_tab 0 842 = some (.aload_n 2, 1, 0, 0, 0, .null) := by decide +kernel
theorem f0_843 : am_tab 0 843 = some (.invokevirtual 142, 3, 205, 1, 6079, .int 0) := by decide +kernel
theorem f0_846 : am_tab 0 846 = some (.if_icmp .eq 815, 3, 1661, 0, 0, .null) := by decide +kernel
theorem f0_849 : am_tab 0 849 = some (.iconst 0, 1, 0, 0, 0, .null) := by decide +kernel
theorem f0_850 : am_tab 0 850 = some (.ireturn, 1, 0, 0, 0, .null) := by decide +kernel
theorem f0_851 : am_tab 0 851 = some (.aload_n 1, 1, 0, 0, 0, .null) := by decide +kernel
theorem f0_852 : am_tab 0 852 = some (.aload_n 0, 1, 0, 0, 0, .null) := by decide +kernel
theorem f0_853 : am_tab 0 853 = some (.iload 4, 2, 0, 0, 0, .null) := by decide +kernel
theorem f0_855 : am_tab 0 855 = some (.iconst 1, 1, 0, 0, 0, .null) := by decide +kernel
theorem f0_856 : am_tab 0 856 = some (.iadd, 1, 0, 0, 0, .null) := by decide +kernel
theorem f0_857 : am_tab 0 857 = some (.iaload, 1, 0, 0, 0, .null) := by decide +kernel
theorem f0_858 : am_tab 0 858 = some (.aload_n 3, 1, 0, 0, 0, .null) := by decide +kernel
theorem f0_859 : am_tab 0 859 = some (.invokestatic 143, 3, 11, 3, 4055, .int 9) := by decide +kernel
theorem f0_862 : am_tab 0 862 = some (.istore 5, 2, 0, 0, 0, .null) := by decide +kernel
theorem f0_864 : am_tab 0 864 = some (.aload_n 2, 1, 0, 0, 0, .null) := by decide +kernel
theorem f0_865 : am_tab 0 865 = some (.aload_n 0, 1, 0, 0, 0, .null) := by decide +kernel
theorem f0_866 : am_tab 0 866 = some (.iload 4, 2, 0, 0, 0, .null) := by decide +kernel
theorem f0_868 : am_tab 0 868 = some (.iconst 1, 1, 0, 0, 0, .null) := by decide +kernel
theorem f0_869 : am_tab 0 869 = some (.iadd, 1, 0, 0, 0, .null) := by decide +kernel
theorem f0_870 : am_tab 0 870 = some (.iaload, 1, 0, 0, 0, .null) := by decide +kernel
theorem f0_871 : am_tab 0 871 = some (.invokevirtual 145, 3, 206, 2, 6083, .int 0) := by decide +kernel
theorem f0_874 : am_tab 0 874 = some (.istore 6, 2, 0, 0, 0, .null) := by decide +kernel
theorem f0_876 : am_tab 0 876 = some (.aload_n 2, 1, 0, 0, 0, .null) := by decide +kernel
theorem f0_877 : am_tab 0 877 = some (.invokevirtual 98, 3, 143, 1, 5089, .int 0) := by decide +kernel
theorem f0_880 : am_tab 0 880 = some (.iload 5, 2, 0, 0, 0, .null) := by decide +kernel
theorem f0_882 : am_tab 0 882 = some (.if_icmp .eq 5, 3, 887, 0, 0, .null) := by decide +kernel
theorem f0_885 : am_tab 0 885 = some (.iconst 0, 1, 0, 0, 0, .null) := by decide +kernel
theorem f0_886 : am_tab 0 886 = some (.ireturn, 1, 0, 0, 0, .null) := by decide +kernel
theorem f0_887 : am_tab 0 887 = some (.iload 5, 2, 0, 0, 0, .null) := by decide +kernel
theorem f0_889 : am_tab 0 889 = some (.ifCond .ne 15, 3, 904, 0, 0, .null) := by decide +kernel
theorem f0_892 : am_tab 0 892 = some (.aload_n 3, 1, 0, 0, 0, .null) := by decide +kernel
theorem f0_893 : am_tab 0 893 = some (.iconst 0, 1, 0, 0, 0, .null) := by decide +kernel
theorem f0_894 : am_tab 0 894 = some (.laload, 1, 0, 0, 0, .null) := by decide +kernel
theorem f0_895 : am_tab 0 895 = some (.iload 6, 2, 0, 0, 0, .null) := by decide +kernel
theorem f0_897 : am_tab 0 897 = some (.i2l, 1, 0, 0, 0, .null) := by decide +kernel
theorem f0_898 : am_tab 0 898 = some (.lcmp, 1, 0, 0, 0, .null) := by decide +kernel
theorem f0_899 : am_tab 0 899 = some (.ifCond .eq 5, 3, 904, 0, 0, .null) := by decide +kernel
theorem f0_902 : am_tab 0 902 = some (.iconst 0, 1, 0, 0, 0, .null) := by decide +kernel
theorem f0_903 : am_tab 0 903 = some (.ireturn, 1, 0, 0, 0, .null) := by decide +kernel
theorem f0_904 : am_tab 0 904 = some (.goto 757, 3, 1661, 0, 0, .null) := by decide +kernel
theorem f0_907 : am_tab 0 907 = some (.aload_n 1, 1, 0, 0, 0, .null) := by decide +kernel
theorem f0_908 : am_tab 0 908 = some (.aload_n 0, 1, 0, 0, 0, .null) := by decide +kernel
theorem f0_909 : am_tab 0 909 = some (.iload 4, 2, 0, 0, 0, .null) := by decide +kernel
theorem f0_911 : am_tab 0 911 = some (.iconst 1, 1, 0, 0, 0, .null) := by decide +kernel
theorem f0_912 : am_tab 0 912 = some (.iadd, 1, 0, 0, 0, .null) := by decide +kernel
theorem f0_913 : am_tab 0 913 = some (.iaload, 1, 0, 0, 0, .null) := by decide +kernel
theorem f0_914 : am_tab 0 914 = some (.aload_n 3, 1, 0, 0, 0, .null) := by decide +kernel
theorem f0_915 : am_tab 0 915 = some (.invokestatic 146, 3, 12, 3, 4065, .int 9) := by decide +kernel
theorem f0_918 : am_tab 0 918 = some (.istore 5, 2, 0, 0, 0, .null) := by decide +kernel
theorem f0_920 : am_tab 0 920 = some (.aload_n 2, 1, 0, 0, 0, .null) := by decide +kernel
theorem f0_921 : am_tab 0 921 = some (.aload_n 0, 1, 0, 0, 0, .null) := by decide +kernel
theorem f0_922 : am_tab 0 922 = some (.iload 4, 2, 0, 0, 0, .null) := by decide +kernel
theorem f0_924 : am_tab 0 924 = some (.iconst 1, 1, 0, 0, 0, .null) := by decide +kernel
theorem f0_925 : am_tab 0 925 = some (.iadd, 1, 0, 0, 0, .null) := by decide +kernel
theorem f0_926 : am_tab 0 926 = some (.iaload, 1, 0, 0, 0, .null) := by decide +kernel
theorem f0_927 : am_tab 0 927 = some (.invokevirtual 148, 3, 207, 2, 6087, .int 0) := by decide +kernel
theorem f0_930 : am_tab 0 930 = some (.istore 6, 2, 0, 0, 0, .null) := by decide +kernel
theorem f0_932 : am_tab 0 932 = some (.aload_n 2, 1, 0, 0, 0, .null) := by decide +kernel
theorem f0_933 : am_tab 0 933 = some (.invokevirtual 98, 3, 143, 1, 5089, .int 0) := by decide +kernel
theorem f0_936 : am_tab 0 936 = some (.iload 5, 2, 0, 0, 0, .null) := by decide +kernel
theorem f0_938 : am_tab 0 938 = some (.if_icmp .eq 5, 3, 943, 0, 0, .null) := by decide +kernel
theorem f0_941 : am_tab 0 941 = some (.iconst 0, 1, 0, 0, 0, .null) := by decide +kernel
theorem f0_942 : am_tab 0 942 = some (.ireturn, 1, 0, 0, 0, .null) := by decide +kernel
theorem f0_943 : am_tab 0 943 = some (.iload 5, 2, 0, 0, 0, .null) := by decide +kernel
theorem f0_945 : am_tab 0 945 = some (.ifCond .ne 15, 3, 960, 0, 0, .null) := by decide +kernel
theorem f0_948 : am_tab 0 948 = some (.aload_n 3, 1, 0, 0, 0, .null) := by decide +kernel
theorem f0_949 : am_tab 0 949 = some (.iconst 0, 1, 0, 0, 0, .null) := by decide +kernel
theorem f0_950 : am_tab 0 950 = some (.laload, 1, 0, 0, 0, .null) := by decide +kernel
theorem f0_951 : am_tab 0 951 = some (.iload 6, 2, 0, 0, 0, .null) := by decide +kernel
theorem f0_953 : am_tab 0 953 = some (.i2l, 1, 0, 0, 0, .null) := by decide +kernel
theorem f0_954 : am_tab 0 954 = some (.lcmp, 1, 0, 0, 0, .null) := by decide +kernel
theorem f0_955 : am_tab 0 955 = some (.ifCond .eq 5, 3, 960, 0, 0, .null) := by decide +kernel
theorem f0_958 : am_tab 0 958 = some (.iconst 0, 1, 0, 0, 0, .null) := by decide +kernel
theorem f0_959 : am_tab 0 959 = some (.ireturn, 1, 0, 0, 0, .null) := by decide +kernel
theorem f0_960 : am_tab 0 960 = some (.goto 701, 3, 1661, 0, 0, .null) := by decide +kernel
theorem f0_963 : am_tab 0 963 = some (.aload_n 1, 1, 0, 0, 0, .null) := by decide +kernel
theorem f0_964 : am_tab 0 964 = some (.aload_n 3, 1, 0, 0, 0, .null) := by decide +kernel
theorem f0_965 : am_tab 0 965 = some (.invokestatic 149, 3, 13, 2, 4073, .int 9) := by decide +kernel
theorem f0_968 : am_tab 0 968 = some (.istore 5, 2, 0, 0, 0, .null) := by decide +kernel
theorem f0_970 : am_tab 0 970 = some (.aload_n 2, 1, 0, 0, 0, .null) := by decide +kernel
theorem f0_971 : am_tab 0 971 = some (.invokevirtual 151, 3, 208, 1, 6091, .int 0) := by decide +kernel
theorem f0_974 : am_tab 0 974 = some (.istore 6, 2, 0, 0, 0, .null) := by decide +kernel
theorem f0_976 : am_tab 0 976 = some (.aload_n 2, 1, 0, 0, 0, .null) := by decide +kernel
theorem f0_977 : am_tab 0 977 = some (.invokevirtual 98, 3, 143, 1, 5089, .int 0) := by decide +kernel
theorem f0_980 : am_tab 0 980 = some (.iload 5, 2, 0, 0, 0, .null) := by decide +kernel
theorem f0_982 : am_tab 0 982 = some (.if_icmp .eq 5, 3, 987, 0, 0, .null) := by decide +kernel
theorem f0_985 : am_tab 0 985 = some (.iconst 0, 1, 0, 0, 0, .null) := by decide +kernel
theorem f0_986 : am_tab 0 986 = some (.ireturn, 1, 0, 0, 0, .null) := by decide +kernel
theorem f0_987 : am_tab 0 987 = some (.iload 5, 2, 0, 0, 0, .null) := by decide +kernel
theorem f0_989 : am_tab 0 989 = some (.ifCond .ne 15, 3, 1004, 0, 0, .null) := by decide +kernel
theorem f0_992 : am_tab 0 992 = some (.aload_n 3, 1, 0, 0, 0, .null) := by decide +kernel
theorem f0_993 : am_tab 0 993 = some (.iconst 0, 1, 0, 0, 0, .null) := by decide +kernel
theorem f0_994 : am_tab 0 994 = some (.laload, 1, 0, 0, 0, .null) := by decide +kernel
theorem f0_995 : am_tab 0 995 = some (.iload 6, 2, 0, 0, 0, .null) := by decide +kernel
theorem f0_997 : am_tab 0 997 = some (.i2l, 1, 0, 0, 0, .null) := by decide +kernel
theorem f0_998 : am_tab 0 998 = some (.lcmp, 1, 0, 0, 0, .null) := by decide +kernel
theorem f0_999 : am_tab 0 999 = some (.ifCond .eq 5, 3, 1004, 0, 0, .null) := by decide +kernel
theorem f0_1002 : am_tab 0 1002 = some (.iconst 0, 1, 0, 0, 0, .null) := by decide +kernel
theorem f0_1003 : am_tab 0 1003 = some (.ireturn, 1, 0, 0, 0, .null) := by decide +kernel
theorem f0_1004 : am_tab 0 1004 = some (.goto 657, 3, 1661, 0, 0, .null) := by decide +kernel
theorem f0_1007 : am_tab 0 1007 = some (.aload_n 1, 1, 0, 0, 0, .null) := by decide +kernel
theorem f0_1008 : am_tab 0 1008 = some (.aload_n 0, 1, 0, 0, 0, .null) := by decide +kernel
theorem f0_1009 : am_tab 0 1009 = some (.iload 4, 2, 0, 0, 0, .null) := by decide +kernel
theorem f0_1011 : am_tab 0 1011 = some (.iconst 1, 1, 0, 0, 0, .null) := by decide +kernel
theorem f0_1012 : am_tab 0 1012 = some (.iadd, 1, 0, 0, 0, .null) := by decide +kernel
theorem f0_1013 : am_tab 0 1013 = some (.iaload, 1, 0, 0, 0, .null) := by decide +kernel
theorem f0_1014 : am_tab 0 1014 = some (.aload_n 0, 1, 0, 0, 0, .null) := by decide +kernel
theorem f0_1015 : am_tab 0 1015 = some (.iload 4, 2, 0, 0, 0, .null) := by decide +kernel
theorem f0_1017 : am_tab 0 1017 = some (.iconst 2, 1, 0, 0, 0, .null) := by decide +kernel
theorem f0_1018 : am_tab 0 1018 = some (.iadd, 1, 0, 0, 0, .null) := by decide +kernel
theorem f0_1019 : am_tab 0 1019 = some (.iaload, 1, 0, 0, 0, .null) := by decide +kernel
theorem f0_1020 : am_tab 0 1020 = some (.aload_n 3, 1, 0, 0, 0, .null) := by decide +kernel
theorem f0_1021 : am_tab 0 1021 = some (.invokestatic 152, 3, 14, 4, 4085, .int 9) := by decide +kernel
theorem f0_1024 : am_tab 0 1024 = some (.istore 5, 2, 0, 0, 0, .null) := by decide +kernel
theorem f0_1026 : am_tab 0 1026 = some (.aload_n 2, 1, 0, 0, 0, .null) := by decide +kernel
theorem f0_1027 : am_tab 0 1027 = some (.aload_n 0, 1, 0, 0, 0, .null) := by decide +kernel
theorem f0_1028 : am_tab 0 1028 = some (.iload 4, 2, 0, 0, 0, .null) := by decide +kernel
theorem f0_1030 : am_tab 0 1030 = some (.iconst 1, 1, 0, 0, 0, .null) := by decide +kernel
theorem f0_1031 : am_tab 0 1031 = some (.iadd, 1, 0, 0, 0, .null) := by decide +kernel
theorem f0_1032 : am_tab 0 1032 = some (.iaload, 1, 0, 0, 0, .null) := by decide +kernel
theorem f0_1033 : am_tab 0 1033 = some (.aload_n 0, 1, 0, 0, 0, .null) := by decide +kernel
theorem f0_1034 : am_tab 0 1034 = some (.iload 4, 2, 0, 0, 0, .null) := by decide +kernel
theorem f0_1036 : am_tab 0 1036 = some (.iconst 2, 1, 0, 0, 0, .null) := by decide +kernel
theorem f0_1037 : am_tab 0 1037 = some (.iadd, 1, 0, 0, 0, .null) := by decide +kernel
theorem f0_1038 : am_tab 0 1038 = some (.iaload, 1, 0, 0, 0, .null) := by decide +kernel
theorem f0_1039 : am_tab 0 1039 = some (.invokevirtual 154, 3, 210, 3, 6095, .int 0) := by decide +kernel
theorem f0_1042 : am_tab 0 1042 = some (.istore 6, 2, 0, 0, 0, .null) := by decide +kernel
theorem f0_1044 : am_tab 0 1044 = some (.aload_n 2, 1, 0, 0, 0, .null) := by decide +kernel
theorem f0_1045 : am_tab 0 1045 = some (.invokevirtual 98, 3, 143, 1, 5089, .int 0) := by decide +kernel
theorem f0_1048 : am_tab 0 1048 = some (.iload 5, 2, 0, 0, 0, .null) := by decide +kernel
theorem f0_1050 : am_tab 0 1050 = some (.if_icmp .eq 5, 3, 1055, 0, 0, .null) := by decide +kernel
theorem f0_1053 : am_tab 0 1053 = some (.iconst 0, 1, 0, 0, 0, .null) := by decide +kernel
theorem f0_1054 : am_tab 0 1054 = some (.ireturn, 1, 0, 0, 0, .null) := by decide +kernel
theorem f0_1055 : am_tab 0 1055 = some (.iload 5, 2, 0, 0, 0, .null) := by decide +kernel
theorem f0_1057 : am_tab 0 1057 = some (.ifCond .ne 15, 3, 1072, 0, 0, .null) := by decide +kernel
theorem f0_1060 : am_tab 0 1060 = some (.aload_n 3, 1, 0, 0, 0, .null) := by decide +kernel
theorem f0_1061 : am_tab 0 1061 = some (.iconst 0, 1, 0, 0, 0, .null) := by decide +kernel
theorem f0_1062 : am_tab 0 1062 = some (.laload, 1, 0, 0, 0, .null) := by decide +kernel
theorem f0_1063 : am_tab 0 1063 = some (.iload 6, 2, 0, 0, 0, .null) := by decide +kernel
theorem f0_1065 : am_tab 0 1065 = some (.i2l, 1, 0, 0, 0, .null) := by decide +kernel
theorem f0_1066 : am_tab 0 1066 = some (.lcmp, 1, 0, 0, 0, .null) := by decide +kernel
theorem f0_1067 : am_tab 0 1067 = some (.ifCond .eq 5, 3, 1072, 0, 0, .null) := by decide +kernel
theorem f0_1070 : am_tab 0 1070 = some (.iconst 0, 1, 0, 0, 0, .null) := by decide +kernel
theorem f0_1071 : am_tab 0 1071 = some (.ireturn, 1, 0, 0, 0, .null) := by decide +kernel
theorem f0_1072 : am_tab 0 1072 = some (.goto 589, 3, 1661, 0, 0, .null) := by decide +kernel
theorem f0_1075 : am_tab 0 1075 = some (.aload_n 1, 1, 0, 0, 0, .null) := by decide +kernel
theorem f0_1076 : am_tab 0 1076 = some (.invokevirtual 155, 3, 124, 1, 2131, .int 0) := by decide +kernel
theorem f0_1079 : am_tab 0 1079 = some (.aload_n 2, 1, 0, 0, 0, .null) := by decide +kernel
theorem f0_1080 : am_tab 0 1080 = some (.invokevirtual 158, 3, 211, 1, 6103, .int 0) := by decide +kernel
theorem f0_1083 : am_tab 0 1083 = some (.if_icmp .eq 578, 3, 1661, 0, 0, .null) := by decide +kernel
theorem f0_1086 : am_tab 0 1086 = some (.iconst 0, 1, 0, 0, 0, .null) := by decide +kernel
theorem f0_1087 : am_tab 0 1087 = some (.ireturn, 1, 0, 0, 0, .null) := by decide +kernel
theorem f0_1088 : am_tab 0 1088 = some (.aload_n 1, 1, 0, 0, 0, .null) := by decide +kernel
theorem f0_1089 : am_tab 0 1089 = some (.aload_n 0, 1, 0, 0, 0, .null) := by decide +kernel
theorem f0_1090 : am_tab 0 1090 = some (.iload 4, 2, 0, 0, 0, .null) := by decide +kernel
theorem f0_1092 : am_tab 0 1092 = some (.iconst 1, 1, 0, 0, 0, .null) := by decide +kernel
theorem f0_1093 : am_tab 0 1093 = some (.iadd, 1, 0, 0, 0, .null) := by decide +kernel
theorem f0_1094 : am_tab 0 1094 = some (.iaload, 1, 0, 0, 0, .null) := by decide +kernel
theorem f0_1095 : am_tab 0 1095 = some (.aload_n 0, 1, 0, 0, 0, .null) := by decide +kernel
theorem f0_1096 : am_tab 0 1096 = some (.iload 4, 2, 0, 0, 0, .null) := by decide +kernel
theorem f0_1098 : am_tab 0 1098 = some (.iconst 2, 1, 0, 0, 0, .null) := by decide +kernel
theorem f0_1099 : am_tab 0 1099 = some (.iadd, 1, 0, 0, 0, .null) := by decide +kernel
theorem f0_1100 : am_tab 0 1100 = some (.iaload, 1, 0, 0, 0, .null) := by decide +kernel
theorem f0_1101 : am_tab 0 1101 = some (.aload_n 0, 1, 0, 0, 0, .null) := by decide +kernel
theorem f0_1102 : am_tab 0 1102 = some (.iload 4, 2, 0, 0, 0, .null) := by decide +kernel
theorem f0_1104 : am_tab 0 1104 = some (.iconst 3, 1, 0, 0, 0, .null) := by decide +kernel
theorem f0_1105 : am_tab 0 1105 = some (.iadd, 1, 0, 0, 0, .null) := by decide +kernel
theorem f0_1106 : am_tab 0 1106 = some (.iaload, 1, 0, 0, 0, .null) := by decide +kernel
theorem f0_1107 : am_tab 0 1107 = some (.aload_n 3, 1, 0, 0, 0, .null) := by decide +kernel
theorem f0_1108 : am_tab 0 1108 = some (.invokestatic 159, 3, 15, 5, 4094, .int 9) := by decide +kernel
theorem f0_1111 : am_tab 0 1111 = some (.istore 5, 2, 0, 0, 0, .null) := by decide +kernel
theorem f0_1113 : am_tab 0 1113 = some (.aload_n 2, 1, 0, 0, 0, .null) := by decide +kernel
theorem f0_1114 : am_tab 0 1114 = some (.aload_n 0, 1, 0, 0, 0, .null) := by decide +kernel
theorem f0_1115 : am_tab 0 1115 = some (.iload 4, 2, 0, 0, 0, .null) := by decide +kernel
theorem f0_1117 : am_tab 0 1117 = some (.iconst 1, 1, 0, 0, 0, .null) := by decide +kernel
theorem f0_1118 : am_tab 0 1118 = some (.iadd, 1, 0, 0, 0, .null) := by decide +kernel
theorem f0_1119 : am_tab 0 1119 = some (.iaload, 1, 0, 0, 0, .null) := by decide +kernel
theorem f0_1120 : am_tab 0 1120 = some (.aload_n 0, 1, 0, 0, 0, .null) := by decide +kernel
theorem f0_1121 : am_tab 0 1121 = some (.iload 4, 2, 0, 0, 0, .null) := by decide +kernel
theorem f0_1123 : am_tab 0 1123 = some (.iconst 2, 1, 0, 0, 0, .null) := by decide +kernel
theorem f0_1124 : am_tab 0 1124 = some (.iadd, 1, 0, 0, 0, .null) := by decide +kernel
theorem f0_1125 : am_tab 0 1125 = some (.iaload, 1, 0, 0, 0, .null) := by decide +kernel
theorem f0_1126 : am_tab 0 1126 = some (.aload_n 0, 1, 0, 0, 0, .null) := by decide +kernel
theorem f0_1127 : am_tab 0 1127 = some (.iload 4, 2, 0, 0, 0, .null) := by decide +kernel
theorem f0_1129 : am_tab 0 1129 = some (.iconst 3, 1, 0, 0, 0, .null) := by decide +kernel
theorem f0_1130 : am_tab 0 1130 = some (.iadd, 1, 0, 0, 0, .null) := by decide +kernel
theorem f0_1131 : am_tab 0 1131 = some (.iaload, 1, 0, 0, 0, .null) := by decide +kernel
theorem f0_1132 : am_tab 0 1132 = some (.invokevirtual 162, 3, 214, 4, 6107, .int 0) := by decide +kernel
theorem f0_1135 : am_tab 0 1135 = some (.istore 6, 2, 0, 0, 0, .null) := by decide +kernel
theorem f0_1137 : am_tab 0 1137 = some (.aload_n 2, 1, 0, 0, 0, .null) := by decide +kernel
theorem f0_1138 : am_tab 0 1138 = some (.invokevirtual 98, 3, 143, 1, 5089, .int 0) := by decide +kernel
theorem f0_1141 : am_tab 0 1141 = some (.iload 5, 2, 0, 0, 0, .null) := by decide +kernel
theorem f0_1143 : am_tab 0 1143 = some (.if_icmp .eq 5, 3, 1148, 0, 0, .null) := by decide +kernel
theorem f0_1146 : am_tab 0 1146 = some (.iconst 0, 1, 0, 0, 0, .null) := by decide +kernel
theorem f0_1147 : am_tab 0 1147 = some (.ireturn, 1, 0, 0, 0, .null) := by decide +kernel
theorem f0_1148 : am_tab 0 1148 = some (.iload 5, 2, 0, 0, 0, .null) := by decide +kernel
theorem f0_1150 : am_tab 0 1150 = some (.ifCond .ne 15, 3, 1165, 0, 0, .null) := by decide +kernel
theorem f0_1153 : am_tab 0 1153 = some (.aload_n 3, 1, 0, 0, 0, .null) := by decide +kernel
theorem f0_1154 : am_tab 0 1154 = some (.iconst 0, 1, 0, 0, 0, .null) := by decide +kernel
theorem f0_1155 : am_tab 0 1155 = some (.laload, 1, 0, 0, 0, .null) := by decide +kernel
theorem f0_1156 : am_tab 0 1156 = some (.iload 6, 2, 0, 0, 0, .null) := by decide +kernel
theorem f0_1158 : am_tab 0 1158 = some (.i2l, 1, 0, 0, 0, .null) := by decide +kernel
theorem f0_1159 : am_tab 0 1159 = some (.lcmp, 1, 0, 0, 0, .null) := by decide +kernel
theorem f0_1160 : am_tab 0 1160 = some (.ifCond .eq 5, 3, 1165, 0, 0, .null) := by decide +kernel
theorem f0_1163 : am_tab 0 1163 = some (.iconst 0, 1, 0, 0, 0, .null) := by decide +kernel
theorem f0_1164 : am_tab 0 1164 = some (.ireturn, 1, 0, 0, 0, .null) := by decide +kernel
theorem f0_1165 : am_tab 0 1165 = some (.goto 496, 3, 1661, 0, 0, .null) := by decide +kernel
theorem f0_1168 : am_tab 0 1168 = some (.aload_n 1, 1, 0, 0, 0, .null) := by decide +kernel
theorem f0_1169 : am_tab 0 1169 = some (.aload_n 0, 1, 0, 0, 0, .null) := by decide +kernel
theorem f0_1170 : am_tab 0 1170 = some (.iload 4, 2, 0, 0, 0, .null) := by decide +kernel
theorem f0_1172 : am_tab 0 1172 = some (.iconst 1, 1, 0, 0, 0, .null) := by decide +kernel
theorem f0_1173 : am_tab 0 1173 = some (.iadd, 1, 0, 0, 0, .null) := by decide +kernel
theorem f0_1174 : am_tab 0 1174 = some (.iaload, 1, 0, 0, 0, .null) := by decide +kernel
theorem f0_1175 : am_tab 0 1175 = some (.aload_n 3, 1, 0, 0, 0, .null) := by decide +kernel
theorem f0_1176 : am_tab 0 1176 = some (.invokestatic 163, 3, 16, 3, 4115, .int 9) := by decide +kernel
theorem f0_1179 : am_tab 0 1179 = some (.istore 5, 2, 0, 0, 0, .null) := by decide +kernel
theorem f0_1181 : am_tab 0 1181 = some (.aload_n 2, 1, 0, 0, 0, .null) := by decide +kernel
theorem f0_1182 : am_tab 0 1182 = some (.aload_n 0, 1, 0, 0, 0, .null) := by decide +kernel
theorem f0_1183 : am_tab 0 1183 = some (.iload 4, 2, 0, 0, 0, .null) := by decide +kernel
theorem f0_1185 : am_tab 0 1185 = some (.iconst 1, 1, 0, 0, 0, .null) := by decide +kernel
theorem f0_1186 : am_tab 0 1186 = some (.iadd, 1, 0, 0, 0, .null) := by decide +kernel
theorem f0_1187 : am_tab 0 1187 = some (.iaload, 1, 0, 0, 0, .null) := by decide +kernel
theorem f0_1188 : am_tab 0 1188 = some (.invokevirtual 165, 3, 217, 2, 6119, .int 0) := by decide +kernel
theorem f0_1191 : am_tab 0 1191 = some (.istore 6, 2, 0, 0, 0, .null) := by decide +kernel
theorem f0_1193 : am_tab 0 1193 = some (.aload_n 2, 1, 0, 0, 0, .null) := by decide +kernel
theorem f0_1194 : am_tab 0 1194 = some (.invokevirtual 98, 3, 143, 1, 5089, .int 0) := by decide +kernel
theorem f0_1197 : am_tab 0 1197 = some (.iload 5, 2, 0, 0, 0, .null) := by decide +kernel
theorem f0_1199 : am_tab 0 1199 = some (.if_icmp .eq 5, 3, 1204, 0, 0, .null) := by decide +kernel
theorem f0_1202 : am_tab 0 1202 = some (.iconst 0, 1, 0, 0, 0, .null) := by decide +kernel
theorem f0_1203 : am_tab 0 1203 = some (.ireturn, 1, 0, 0, 0, .null) := by decide +kernel
theorem f0_1204 : am_tab 0 1204 = some (.iload 5, 2, 0, 0, 0, .null) := by decide +kernel
theorem f0_1206 : am_tab 0 1206 = some (.ifCond .ne 15, 3, 1221, 0, 0, .null) := by decide +kernel
theorem f0_1209 : am_tab 0 1209 = some (.aload_n 3, 1, 0, 0, 0, .null) := by decide +kernel
theorem f0_1210 : am_tab 0 1210 = some (.iconst 0, 1, 0, 0, 0, .null) := by decide +kernel
theorem f0_1211 : am_tab 0 1211 = some (.laload, 1, 0, 0, 0, .null) := by decide +kernel
theorem f0_1212 : am_tab 0 1212 = some (.iload 6, 2, 0, 0, 0, .null) := by decide +kernel
theorem f0_1214 : am_tab 0 1214 = some (.i2l, 1, 0, 0, 0, .null) := by decide +kernel
theorem f0_1215 : am_tab 0 1215 = some (.lcmp, 1, 0, 0, 0, .null) := by decide +kernel
theorem f0_1216 : am_tab 0 1216 = some (.ifCond .eq 5, 3, 1221, 0, 0, .null) := by decide +kernel
theorem f0_1219 : am_tab 0 1219 = some (.iconst 0, 1, 0, 0, 0, .null) := by decide +kernel
theorem f0_1220 : am_tab 0 1220 = some (.ireturn, 1, 0, 0, 0, .null) := by decide +kernel
theorem f0_1221 : am_tab 0 1221 = some (.goto 440, 3, 1661, 0, 0, .null) := by decide +kernel
theorem f0_1224 : am_tab 0 1224 = some (.aload_n 1, 1, 0, 0, 0, .null) := by decide +kernel
theorem f0_1225 : am_tab 0 1225 = some (.aload_n 0, 1, 0, 0, 0, .null) := by decide +kernel
theorem f0_1226 : am_tab 0 1226 = some (.iload 4, 2, 0, 0, 0, .null) := by decide +kernel
theorem f0_1228 : am_tab 0 1228 = some (.iconst 1, 1, 0, 0, 0, .null) := by decide +kernel
theorem f0_1229 : am_tab 0 1229 = some (.iadd, 1, 0, 0, 0, .null) := by decide +kernel
theorem f0_1230 : am_tab 0 1230 = some (.iaload, 1, 0, 0, 0, .null) := by decide +kernel
theorem f0_1231 : am_tab 0 1231 = some (.aload_n 3, 1, 0, 0, 0, .null) := by decide +kernel
theorem f0_1232 : am_tab 0 1232 = some (.invokestatic 166, 3, 17, 3, 4143, .int 9) := by decide +kernel
theorem f0_1235 : am_tab 0 1235 = some (.istore 5, 2, 0, 0, 0, .null) := by decide +kernel
theorem f0_1237 : am_tab 0 1237 = some (.aload_n 2, 1, 0, 0, 0, .null) := by decide +kernel
theorem f0_1238 : am_tab 0 1238 = some (.aload_n 0, 1, 0, 0, 0, .null) := by decide +kernel
theorem f0_1239 : am_tab 0 1239 = some (.iload 4, 2, 0, 0, 0, .null) := by decide +kernel
theorem f0_1241 : am_tab 0 1241 = some (.iconst 1, 1, 0, 0, 0, .null) := by decide +kernel
theorem f0_1242 : am_tab 0 1242 = some (.iadd, 1, 0, 0, 0, .null) := by decide +kernel
theorem f0_1243 : am_tab 0 1243 = some (.iaload, 1, 0, 0, 0, .null) := by decide +kernel
theorem f0_1244 : am_tab 0 1244 = some (.invokevirtual 168, 3, 218, 2, 6131, .int 0) := by decide +kernel
theorem f0_1247 : am_tab 0 1247 = some (.istore 6, 2, 0, 0, 0, .null) := by decide +kernel
theorem f0_1249 : am_tab 0 1249 = some (.aload_n 2, 1, 0, 0, 0, .null) := by decide +kernel
theorem f0_1250 : am_tab 0 1250 = some (.invokevirtual 98, 3, 143, 1, 5089, .int 0) := by decide +kernel
theorem f0_1253 : am_tab 0 1253 = some (.iload 5, 2, 0, 0, 0, .null) := by decide +kernel
theorem f0_1255 : am_tab 0 1255 = some (.if_icmp .eq 5, 3, 1260, 0, 0, .null) := by decide +kernel
theorem f0_1258 : am_tab 0 1258 = some (.iconst 0, 1, 0, 0, 0, .null) := by decide +kernel
theorem f0_1259 : am_tab 0 1259 = some (.ireturn, 1, 0, 0, 0, .null) := by decide +kernel
theorem f0_1260 : am_tab 0 1260 = some (.iload 5, 2, 0, 0, 0, .null) := by decide +kernel
theorem f0_1262 : am_tab 0 1262 = some (.ifCond .ne 15, 3, 1277, 0, 0, .null) := by decide +kernel
theorem f0_1265 : am_tab 0 1265 = some (.aload_n 3, 1, 0, 0, 0, .null) := by decide +kernel
theorem f0_1266 : am_tab 0 1266 = some (.iconst 0, 1, 0, 0, 0, .null) := by decide +kernel
theorem f0_1267 : am_tab 0 1267 = some (.laload, 1, 0, 0, 0, .null) := by decide +kernel
theorem f0_1268 : am_tab 0 1268 = some (.iload 6, 2, 0, 0, 0, .null) := by decide +kernel
theorem f0_1270 : am_tab 0 1270 = some (.i2l, 1, 0, 0, 0, .null) := by decide +kernel
theorem f0_1271 : am_tab 0 1271 = some (.lcmp, 1, 0, 0, 0, .null) := by decide +kernel
theorem f0_1272 : am_tab 0 1272 = some (.ifCond .eq 5, 3, 1277, 0, 0, .null) := by decide +kernel
theorem f0_1275 : am_tab 0 1275 = some (.iconst 0, 1, 0, 0, 0, .null) := by decide +kernel
theorem f0_1276 : am_tab 0 1276 = some (.ireturn, 1, 0, 0, 0, .null) := by decide +kernel
theorem f0_1277 : am_tab 0 1277 = some (.goto 384, 3, 1661, 0, 0, .null) := by decide +kernel
theorem f0_1280 : am_tab 0 1280 = some (.aload_n 1, 1, 0, 0, 0, .null) := by decide +kernel
theorem f0_1281 : am_tab 0 1281 = some (.aload_n 0, 1, 0, 0, 0, .null) := by decide +kernel
theorem f0_1282 : am_tab 0 1282 = some (.iload 4, 2, 0, 0, 0, .null) := by decide +kernel
theorem f0_1284 : am_tab 0 1284 = some (.iconst 1, 1, 0, 0, 0, .null) := by decide +kernel
theorem f0_1285 : am_tab 0 1285 = some (.iadd, 1, 0, 0, 0, .null) := by decide +kernel
theorem f0_1286 : am_tab 0 1286 = some (.iaload, 1, 0, 0, 0, .null) := by decide +kernel
theorem f0_1287 : am_tab 0 1287 = some (.aload_n 3, 1, 0, 0, 0, .null) := by decide +kernel
theorem f0_1288 : am_tab 0 1288 = some (.invokestatic 169, 3, 18, 3, 4151, .int 9) := by decide +kernel
theorem f0_1291 : am_tab 0 1291 = some (.istore 5, 2, 0, 0, 0, .null) := by decide +kernel
theorem f0_1293 : am_tab 0 1293 = some (.aload_n 2, 1, 0, 0, 0, .null) := by decide +kernel
theorem f0_1294 : am_tab 0 1294 = some (.aload_n 0, 1, 0, 0, 0, .null) := by decide +kernel
theorem f0_1295 : am_tab 0 1295 = some (.iload 4, 2, 0, 0, 0, .null) := by decide +kernel
theorem f0_1297 : am_tab 0 1297 = some (.iconst 1, 1, 0, 0, 0, .null) := by decide +kernel
theorem f0_1298 : am_tab 0 1298 = some (.iadd, 1, 0, 0, 0, .null) := by decide +kernel
theorem f0_1299 : am_tab 0 1299 = some (.iaload, 1, 0, 0, 0, .null) := by decide +kernel
theorem f0_1300 : am_tab 0 1300 = some (.invokevirtual 171, 3, 220, 2, 6135, .int 0) := by decide +kernel
theorem f0_1303 : am_tab 0 1303 = some (.istore 6, 2, 0, 0, 0, .null) := by decide +kernel
theorem f0_1305 : am_tab 0 1305 = some (.aload_n 2, 1, 0, 0, 0, .null) := by decide +kernel
theorem f0_1306 : am_tab 0 1306 = some (.invokevirtual 98, 3, 143, 1, 5089, .int 0) := by decide +kernel
theorem f0_1309 : am_tab 0 1309 = some (.iload 5, 2, 0, 0, 0, .null) := by decide +kernel
theorem f0_1311 : am_tab 0 1311 = some (.if_icmp .eq 5, 3, 1316, 0, 0, .null) := by decide +kernel
theorem f0_1314 : am_tab 0 1314 = some (.iconst 0, 1, 0, 0, 0, .null) := by decide +kernel
theorem f0_1315 : am_tab 0 1315 = some (.ireturn, 1, 0, 0, 0, .null) := by decide +kernel
theorem f0_1316 : am_tab 0 1316 = some (.iload 5, 2, 0, 0, 0, .null) := by decide +kernel
theorem f0_1318 : am_tab 0 1318 = some (.ifCond .ne 15, 3, 1333, 0, 0, .null) := by decide +kernel
theorem f0_1321 : am_tab 0 1321 = some (.aload_n 3, 1, 0, 0, 0, .null) := by decide +kernel
theorem f0_1322 : am_tab 0 1322 = some (.iconst 0, 1, 0, 0, 0, .null) := by decide +kernel
theorem f0_1323 : am_tab 0 1323 = some (.laload, 1, 0, 0, 0, .null) := by decide +kernel
theorem f0_1324 : am_tab 0 1324 = some (.iload 6, 2, 0, 0, 0, .null) := by decide +kernel
theorem f0_1326 : am_tab 0 1326 = some (.i2l, 1, 0, 0, 0, .null) := by decide +kernel
theorem f0_1327 : am_tab 0 1327 = some (.lcmp, 1, 0, 0, 0, .null) := by decide +kernel
theorem f0_1328 : am_tab 0 1328 = some (.ifCond .eq 5, 3, 1333, 0, 0, .null) := by decide +kernel
theorem f0_1331 : am_tab 0 1331 = some (.iconst 0, 1, 0, 0, 0, .null) := by decide +kernel
theorem f0_1332 : am_tab 0 1332 = some (.ireturn, 1, 0, 0, 0, .null) := by decide +kernel
theorem f0_1333 : am_tab 0 1333 = some (.goto 328, 3, 1661, 0, 0, .null) := by decide +kernel
theorem f0_1336 : am_tab 0 1336 = some (.aload_n 1, 1, 0, 0, 0, .null) := by decide +kernel
theorem f0_1337 : am_tab 0 1337 = some (.invokevirtual 172, 3, 129, 1, 2190, .int 0) := by decide +kernel
theorem f0_1340 : am_tab 0 1340 = some (.aload_n 2, 1, 0, 0, 0, .null) := by decide +kernel
theorem f0_1341 : am_tab 0 1341 = some (.invokevirtual 175, 3, 221, 1, 6143, .int 0) := by decide +kernel
theorem f0_1344 : am_tab 0 1344 = some (.if_icmp .eq 317, 3, 1661, 0, 0, .null) := by decide +kernel
theorem f0_1347 : am_tab 0 1347 = some (.iconst 0, 1, 0, 0, 0, .null) := by decide +kernel
theorem f0_1348 : am_tab 0 1348 = some (.ireturn, 1, 0, 0, 0, .null) := by decide +kernel
theorem f0_1349 : am_tab 0 1349 = some (.aload_n 1, 1, 0, 0, 0, .null) := by decide +kernel
theorem f0_1350 : am_tab 0 1350 = some (.aload_n 0, 1, 0, 0, 0, .null) := by decide +kernel
theorem f0_1351 : am_tab 0 1351 = some (.iload 4, 2, 0, 0, 0, .null) := by decide +kernel
theorem f0_1353 : am_tab 0 1353 = some (.iconst 1, 1, 0, 0, 0, .null) := by decide +kernel
theorem f0_1354 : am_tab 0 1354 = some (.iadd, 1, 0, 0, 0, .null) := by decide +kernel
theorem f0_1355 : am_tab 0 1355 = some (.iaload, 1, 0, 0, 0, .null) := by decide +kernel
theorem f0_1356 : am_tab 0 1356 = some (.aload_n 0, 1, 0, 0, 0, .null) := by decide +kernel
theorem f0_1357 : am_tab 0 1357 = some (.iload 4, 2, 0, 0, 0, .null) := by decide +kernel
theorem f0_1359 : am_tab 0 1359 = some (.iconst 2, 1, 0, 0, 0, .null) := by decide +kernel
theorem f0_1360 : am_tab 0 1360 = some (.iadd, 1, 0, 0, 0, .null) := by decide +kernel
theorem f0_1361 : am_tab 0 1361 = some (.iaload, 1, 0, 0, 0, .null) := by decide +kernel
theorem f0_1362 : am_tab 0 1362 = some (.i2l, 1, 0, 0, 0, .null) := by decide +kernel
theorem f0_1363 : am_tab 0 1363 = some (.bipush 32, 2, 0, 0, 0, .null) := by decide +kernel
theorem f0_1365 : am_tab 0 1365 = some (.lshl, 1, 0, 0, 0, .null) := by decide +kernel
theorem f0_1366 : am_tab 0 1366 = some (.aload_n 0, 1, 0, 0, 0, .null) := by decide +kernel
theorem f0_1367 : am_tab 0 1367 = some (.iload 4, 2, 0, 0, 0, .null) := by decide +kernel
theorem f0_1369 : am_tab 0 1369 = some (.iconst 3, 1, 0, 0, 0, .null) := by decide +kernel
theorem f0_1370 : am_tab 0 1370 = some (.iadd, 1, 0, 0, 0, .null) := by decide +kernel
theorem f0_1371 : am_tab 0 1371 = some (.iaload, 1, 0, 0, 0, .null) := by decide +kernel
theorem f0_1372 : am_tab 0 1372 = some (.i2l, 1, 0, 0, 0, .null) := by decide +kernel
theorem f0_1373 : am_tab 0 1373 = some (.ldc2_w 176, 3, 0, 0, 6200, .long (4294967295)) := by decide +kernel
theorem f0_1376 : am_tab 0 1376 = some (.land, 1, 0, 0, 0, .null) := by decide +kernel
theorem f0_1377 : am_tab 0 1377 = some (.lor, 1, 0, 0, 0, .null) := by decide +kernel
theorem f0_1378 : am_tab 0 1378 = some (.aload_n 3, 1, 0, 0, 0, .null) := by decide +kernel
theorem f0_1379 : am_tab 0 1379 = some (.invokestatic 178, 3, 19, 4, 4173, .int 9) := by decide +kernel
theorem f0_1382 : am_tab 0 1382 = some (.istore 5, 2, 0, 0, 0, .null) := by decide +kernel
theorem f0_1384 : am_tab 0 1384 = some (.aload_n 2, 1, 0, 0, 0, .null) := by decide +kernel
theorem f0_1385 : am_tab 0 1385 = some (.aload_n 0, 1, 0, 0, 0, .null) := by decide +kernel
theorem f0_1386 : am_tab 0 1386 = some (.iload 4, 2, 0, 0, 0, .null) := by decide +kernel
theorem f0_1388 : am_tab 0 1388 = some (.iconst 1, 1, 0, 0, 0, .null) := by decide +kernel
theorem f0_1389 : am_tab 0 1389 = some (.iadd, 1, 0, 0, 0, .null) := by decide +kernel
theorem f0_1390 : am_tab 0 1390 = some (.iaload, 1, 0, 0, 0, .null) := by decide +kernel
theorem f0_1391 : am_tab 0 1391 = some (.aload_n 0, 1, 0, 0, 0, .null) := by decide +kernel
theorem f0_1392 : am_tab 0 1392 = some (.iload 4, 2, 0, 0, 0, .null) := by decide +kernel
theorem f0_1394 : am_tab 0 1394 = some (.iconst 2, 1, 0, 0, 0, .null) := by decide +kernel
theorem f0_1395 : am_tab 0 1395 = some (.iadd, 1, 0, 0, 0, .null) := by decide +kernel
theorem f0_1396 : am_tab 0 1396 = some (.iaload, 1, 0, 0, 0, .null) := by decide +kernel
theorem f0_1397 : am_tab 0 1397 = some (.i2l, 1, 0, 0, 0, .null) := by decide +kernel
theorem f0_1398 : am_tab 0 1398 = some (.bipush 32, 2, 0, 0, 0, .null) := by decide +kernel
theorem f0_1400 : am_tab 0 1400 = some (.lshl, 1, 0, 0, 0, .null) := by decide +kernel
theorem f0_1401 : am_tab 0 1401 = some (.aload_n 0, 1, 0, 0, 0, .null) := by decide +kernel
theorem f0_1402 : am_tab 0 1402 = some (.iload 4, 2, 0, 0, 0, .null) := by decide +kernel
theorem f0_1404 : am_tab 0 1404 = some (.iconst 3, 1, 0, 0, 0, .null) := by decide +kernel
theorem f0_1405 : am_tab 0 1405 = some (.iadd, 1, 0, 0, 0, .null) := by decide +kernel
theorem f0_1406 : am_tab 0 1406 = some (.iaload, 1, 0, 0, 0, .null) := by decide +kernel
theorem f0_1407 : am_tab 0 1407 = some (.i2l, 1, 0, 0, 0, .null) := by decide +kernel
theorem f0_1408 : am_tab 0 1408 = some (.ldc2_w 176, 3, 0, 0, 6200, .long (4294967295)) := by decide +kernel
theorem f0_1411 : am_tab 0 1411 = some (.land, 1, 0, 0, 0, .null) := by decide +kernel
theorem f0_1412 : am_tab 0 1412 = some (.lor, 1, 0, 0, 0, .null) := by decide +kernel
theorem f0_1413 : am_tab 0 1413 = some (.invokevirtual 181, 3, 225, 3, 6147, .int 0) := by decide +kernel
theorem f0_1416 : am_tab 0 1416 = some (.istore 6, 2, 0, 0, 0, .null) := by decide +kernel
theorem f0_1418 : am_tab 0 1418 = some (.aload_n 2, 1, 0, 0, 0, .null) := by decide +kernel
theorem f0_1419 : am_tab 0 1419 = some (.invokevirtual 98, 3, 143, 1, 5089, .int 0) := by decide +kernel
theorem f0_1422 : am_tab 0 1422 = some (.iload 5, 2, 0, 0, 0, .null) := by decide +kernel
theorem f0_1424 : am_tab 0 1424 = some (.if_icmp .eq 5, 3, 1429, 0, 0, .null) := by decide +kernel
theorem f0_1427 : am_tab 0 1427 = some (.iconst 0, 1, 0, 0, 0, .null) := by decide +kernel
theorem f0_1428 : am_tab 0 1428 = some (.ireturn, 1, 0, 0, 0, .null) := by decide +kernel
theorem f0_1429 : am_tab 0 1429 = some (.iload 5, 2, 0, 0, 0, .null) := by decide +kernel
theorem f0_1431 : am_tab 0 1431 = some (.ifCond .ne 15, 3, 1446, 0, 0, .null) := by decide +kernel
theorem f0_1434 : am_tab 0 1434 = some (.aload_n 3, 1, 0, 0, 0, .null) := by decide +kernel
theorem f0_1435 : am_tab 0 1435 = some (.iconst 0, 1, 0, 0, 0, .null) := by decide +kernel
theorem f0_1436 : am_tab 0 1436 = some (.laload, 1, 0, 0, 0, .null) := by decide +kernel
theorem f0_1437 : am_tab 0 1437 = some (.iload 6, 2, 0, 0, 0, .null) := by decide +kernel
theorem f0_1439 : am_tab 0 1439 = some (.i2l, 1, 0, 0, 0, .null) := by decide +kernel
theorem f0_1440 : am_tab 0 1440 = some (.lcmp, 1, 0, 0, 0, .null) := by decide +kernel
theorem f0_1441 : am_tab 0 1441 = some (.ifCond .eq 5, 3, 1446, 0, 0, .null) := by decide +kernel
theorem f0_1444 : am_tab 0 1444 = some (.iconst 0, 1, 0, 0, 0, .null) := by decide +kernel
theorem f0_1445 : am_tab 0 1445 = some (.ireturn, 1, 0, 0, 0, .null) := by decide +kernel
theorem f0_1446 : am_tab 0 1446 = some (.goto 215, 3, 1661, 0, 0, .null) := by decide +kernel
theorem f0_1449 : am_tab 0 1449 = some (.aload_n 1, 1, 0, 0, 0, .null) := by decide +kernel
theorem f0_1450 : am_tab 0 1450 = some (.aload_n 0, 1, 0, 0, 0, .null) := by decide +kernel
theorem f0_1451 : am_tab 0 1451 = some (.iload 4, 2, 0, 0, 0, .null) := by decide +kernel
theorem f0_1453 : am_tab 0 1453 = some (.iconst 1, 1, 0, 0, 0, .null) := by decide +kernel
theorem f0_1454 : am_tab 0 1454 = some (.iadd, 1, 0, 0, 0, .null) := by decide +kernel
theorem f0_1455 : am_tab 0 1455 = some (.iaload, 1, 0, 0, 0, .null) := by decide +kernel
theorem f0_1456 : am_tab 0 1456 = some (.i2l, 1, 0, 0, 0, .null) := by decide +kernel
theorem f0_1457 : am_tab 0 1457 = some (.bipush 32, 2, 0, 0, 0, .null) := by decide +kernel
theorem f0_1459 : am_tab 0 1459 = some (.lshl, 1, 0, 0, 0, .null) := by decide +kernel
theorem f0_1460 : am_tab 0 1460 = some (.aload_n 0, 1, 0, 0, 0, .null) := by decide +kernel
theorem f0_1461 : am_tab 0 1461 = some (.iload 4, 2, 0, 0, 0, .null) := by decide +kernel
theorem f0_1463 : am_tab 0 1463 = some (.iconst 2, 1, 0, 0, 0, .null) := by decide +kernel
theorem f0_1464 : am_tab 0 1464 = some (.iadd, 1, 0, 0, 0, .null) := by decide +kernel
theorem f0_1465 : am_tab 0 1465 = some (.iaload, 1, 0, 0, 0, .null) := by decide +kernel
theorem f0_1466 : am_tab 0 1466 = some (.i2l, 1, 0, 0, 0, .null) := by decide +kernel
theorem f0_1467 : am_tab 0 1467 = some (.ldc2_w 176, 3, 0, 0, 6200, .long (4294967295)) := by decide +kernel
theorem f0_1470 : am_tab 0 1470 = some (.land, 1, 0, 0, 0, .null) := by decide +kernel
theorem f0_1471 : am_tab 0 1471 = some (.lor, 1, 0, 0, 0, .null) := by decide +kernel
theorem f0_1472 : am_tab 0 1472 = some (.aload_n 0, 1, 0, 0, 0, .null) := by decide +kernel
theorem f0_1473 : am_tab 0 1473 = some (.iload 4, 2, 0, 0, 0, .null) := by decide +kernel
theorem f0_1475 : am_tab 0 1475 = some (.iconst 3, 1, 0, 0, 0, .null) := by decide +kernel
theorem f0_1476 : am_tab 0 1476 = some (.iadd, 1, 0, 0, 0, .null) := by decide +kernel
theorem f0_1477 : am_tab 0 1477 = some (.iaload, 1, 0, 0, 0, .null) := by decide +kernel
theorem f0_1478 : am_tab 0 1478 = some (.aload_n 3, 1, 0, 0, 0, .null) := by decide +kernel
theorem f0_1479 : am_tab 0 1479 = some (.invokestatic 182, 3, 20, 4, 4201, .int 9) := by decide +kernel
theorem f0_1482 : am_tab 0 1482 = some (.istore 5, 2, 0, 0, 0, .null) := by decide +kernel
theorem f0_1484 : am_tab 0 1484 = some (.aload_n 2, 1, 0, 0, 0, .null) := by decide +kernel
theorem f0_1485 : am_tab 0 1485 = some (.aload_n 0, 1, 0, 0, 0, .null) := by decide +kernel
theorem f0_1486 : am_tab 0 1486 = some (.iload 4, 2, 0, 0, 0, .null) := by decide +kernel
theorem f0_1488 : am_tab 0 1488 = some (.iconst 1, 1, 0, 0, 0, .null) := by decide +kernel
theorem f0_1489 : am_tab 0 1489 = some (.iadd, 1, 0, 0, 0, .null) := by decide +kernel
theorem f0_1490 : am_tab 0 1490 = some (.iaload, 1, 0, 0, 0, .null) := by decide +kernel
theorem f0_1491 : am_tab 0 1491 = some (.i2l, 1, 0, 0, 0, .null) := by decide +kernel
theorem f0_1492 : am_tab 0 1492 = some (.bipush 32, 2, 0, 0, 0, .null) := by decide +kernel
theorem f0_1494 : am_tab 0 1494 = some (.lshl, 1, 0, 0, 0, .null) := by decide +kernel
theorem f0_1495 : am_tab 0 1495 = some (.aload_n 0, 1, 0, 0, 0, .null) := by decide +kernel
theorem f0_1496 : am_tab 0 1496 = some (.iload 4, 2, 0, 0, 0, .null) := by decide +kernel
theorem f0_1498 : am_tab 0 1498 = some (.iconst 2, 1, 0, 0, 0, .null) := by decide +kernel
theorem f0_1499 : am_tab 0 1499 = some (.iadd, 1, 0, 0, 0, .null) := by decide +kernel
theorem f0_1500 : am_tab 0 1500 = some (.iaload, 1, 0, 0, 0, .null) := by decide +kernel
theorem f0_1501 : am_tab 0 1501 = some (.i2l, 1, 0, 0, 0, .null) := by decide +kernel
theorem f0_1502 : am_tab 0 1502 = some (.ldc2_w 176, 3, 0, 0, 6200, .long (4294967295)) := by decide +kernel
theorem f0_1505 : am_tab 0 1505 = some (.land, 1, 0, 0, 0, .null) := by decide +kernel
theorem f0_1506 : am_tab 0 1506 = some (.lor, 1, 0, 0, 0, .null) := by decide +kernel
theorem f0_1507 : am_tab 0 1507 = some (.aload_n 0, 1, 0, 0, 0, .null) := by decide +kernel
theorem f0_1508 : am_tab 0 1508 = some (.iload 4, 2, 0, 0, 0, .null) := by decide +kernel
theorem f0_1510 : am_tab 0 1510 = some (.iconst 3, 1, 0, 0, 0, .null) := by decide +kernel
theorem f0_1511 : am_tab 0 1511 = some (.iadd, 1, 0, 0, 0, .null) := by decide +kernel
theorem f0_1512 : am_tab 0 1512 = some (.iaload, 1, 0, 0, 0, .null) := by decide +kernel
theorem f0_1513 : am_tab 0 1513 = some (.invokevirtual 185, 3, 228, 3, 6174, .int 0) := by decide +kernel
theorem f0_1516 : am_tab 0 1516 = some (.istore 6, 2, 0, 0, 0, .null) := by decide +kernel
theorem f0_1518 : am_tab 0 1518 = some (.aload_n 2, 1, 0, 0, 0, .null) := by decide +kernel
theorem f0_1519 : am_tab 0 1519 = some (.invokevirtual 98, 3, 143, 1, 5089, .int 0) := by decide +kernel
theorem f0_1522 : am_tab 0 1522 = some (.iload 5, 2, 0, 0, 0, .null) := by decide +kernel
theorem f0_1524 : am_tab 0 1524 = some (.if_icmp .eq 5, 3, 1529, 0, 0, .null) := by decide +kernel
theorem f0_1527 : am_tab 0 1527 = some (.iconst 0, 1, 0, 0, 0, .null) := by decide +kernel
theorem f0_1528 : am_tab 0 1528 = some (.ireturn, 1, 0, 0, 0, .null) := by decide +kernel
theorem f0_1529 : am_tab 0 1529 = some (.iload 5, 2, 0, 0, 0, .null) := by decide +kernel
theorem f0_1531 : am_tab 0 1531 = some (.ifCond .ne 15, 3, 1546, 0, 0, .null) := by decide +kernel
theorem f0_1534 : am_tab 0 1534 = some (.aload_n 3, 1, 0, 0, 0, .null) := by decide +kernel
theorem f0_1535 : am_tab 0 1535 = some (.iconst 0, 1, 0, 0, 0, .null) := by decide +kernel
theorem f0_1536 : am_tab 0 1536 = some (.laload, 1, 0, 0, 0, .null) := by decide +kernel
theorem f0_1537 : am_tab 0 1537 = some (.iload 6, 2, 0, 0, 0, .null) := by decide +kernel
theorem f0_1539 : am_tab 0 1539 = some (.i2l, 1, 0, 0, 0, .null) := by decide +kernel
theorem f0_1540 : am_tab 0 1540 = some (.lcmp, 1, 0, 0, 0, .null) := by decide +kernel
theorem f0_1541 : am_tab 0 1541 = some (.ifCond .eq 5, 3, 1546, 0, 0, .null) := by decide +kernel
theorem f0_1544 : am_tab 0 1544 = some (.iconst 0, 1, 0, 0, 0, .null) := by decide +kernel
theorem f0_1545 : am_tab 0 1545 = some (.ireturn, 1, 0, 0, 0, .null) := by decide +kernel
theorem f0_1546 : am_tab 0 1546 = some (.goto 115, 3, 1661, 0, 0, .null) := by decide +kernel
theorem f0_1549 : am_tab 0 1549 = some (.aload_n 1, 1, 0, 0, 0, .null) := by decide +kernel
theorem f0_1550 : am_tab 0 1550 = some (.aload_n 0, 1, 0, 0, 0, .null) := by decide +kernel
theorem f0_1551 : am_tab 0 1551 = some (.iload 4, 2, 0, 0, 0, .null) := by decide +kernel
theorem f0_1553 : am_tab 0 1553 = some (.iconst 1, 1, 0, 0, 0, .null) := by decide +kernel
theorem f0_1554 : am_tab 0 1554 = some (.iadd, 1, 0, 0, 0, .null) := by decide +kernel
theorem f0_1555 : am_tab 0 1555 = some (.iaload, 1, 0, 0, 0, .null) := by decide +kernel
theorem f0_1556 : am_tab 0 1556 = some (.aload_n 3, 1, 0, 0, 0, .null) := by decide +kernel
theorem f0_1557 : am_tab 0 1557 = some (.invokestatic 186, 3, 21, 3, 4224, .int 9) := by decide +kernel
theorem f0_1560 : am_tab 0 1560 = some (.istore 5, 2, 0, 0, 0, .null) := by decide +kernel
theorem f0_1562 : am_tab 0 1562 = some (.aload_n 2, 1, 0, 0, 0, .null) := by decide +kernel
theorem f0_1563 : am_tab 0 1563 = some (.aload_n 0, 1, 0, 0, 0, .null) := by decide +kernel
theorem f0_1564 : am_tab 0 1564 = some (.iload 4, 2, 0, 0, 0, .null) := by decide +kernel
theorem f0_1566 : am_tab 0 1566 = some (.iconst 1, 1, 0, 0, 0, .null) := by decide +kernel
theorem f0_1567 : am_tab 0 1567 = some (.iadd, 1, 0, 0, 0, .null) := by decide +kernel
theorem f0_1568 : am_tab 0 1568 = some (.iaload, 1, 0, 0, 0, .null) := by decide +kernel
theorem f0_1569 : am_tab 0 1569 = some (.invokevirtual 188, 3, 229, 2, 6192, .int 0) := by decide +kernel
theorem f0_1572 : am_tab 0 1572 = some (.istore 6, 2, 0, 0, 0, .null) := by decide +kernel
theorem f0_1574 : am_tab 0 1574 = some (.aload_n 2, 1, 0, 0, 0, .null) := by decide +kernel
theorem f0_1575 : am_tab 0 1575 = some (.invokevirtual 98, 3, 143, 1, 5089, .int 0) := by decide +kernel
theorem f0_1578 : am_tab 0 1578 = some (.iload 5, 2, 0, 0, 0, .null) := by decide +kernel
theorem f0_1580 : am_tab 0 1580 = some (.if_icmp .eq 5, 3, 1585, 0, 0, .null) := by decide +kernel
theorem f0_1583 : am_tab 0 1583 = some (.iconst 0, 1, 0, 0, 0, .null) := by decide +kernel
theorem f0_1584 : am_tab 0 1584 = some (.ireturn, 1, 0, 0, 0, .null) := by decide +kernel
theorem f0_1585 : am_tab 0 1585 = some (.iload 5, 2, 0, 0, 0, .null) := by decide +kernel
theorem f0_1587 : am_tab 0 1587 = some (.ifCond .ne 15, 3, 1602, 0, 0, .null) := by decide +kernel
theorem f0_1590 : am_tab 0 1590 = some (.aload_n 3, 1, 0, 0, 0, .null) := by decide +kernel
theorem f0_1591 : am_tab 0 1591 = some (.iconst 0, 1, 0, 0, 0, .null) := by decide +kernel
theorem f0_1592 : am_tab 0 1592 = some (.laload, 1, 0, 0, 0, .null) := by decide +kernel
theorem f0_1593 : am_tab 0 1593 = some (.iload 6, 2, 0, 0, 0, .null) := by decide +kernel
theorem f0_1595 : am_tab 0 1595 = some (.i2l, 1, 0, 0, 0, .null) := by decide +kernel
theorem f0_1596 : am_tab 0 1596 = some (.lcmp, 1, 0, 0, 0, .null) := by decide +kernel
theorem f0_1597 : am_tab 0 1597 = some (.ifCond .eq 5, 3, 1602, 0, 0, .null) := by decide +kernel
theorem f0_1600 : am_tab 0 1600 = some (.iconst 0, 1, 0, 0, 0, .null) := by decide +kernel
theorem f0_1601 : am_tab 0 1601 = some (.ireturn, 1, 0, 0, 0, .null) := by decide +kernel
theorem f0_1602 : am_tab 0 1602 = some (.goto 59, 3, 1661, 0, 0, .null) := by decide +kernel
theorem f0_1605 : am_tab 0 1605 = some (.aload_n 1, 1, 0, 0, 0, .null) := by decide +kernel
theorem f0_1606 : am_tab 0 1606 = some (.aload_n 0, 1, 0, 0, 0, .null) := by decide +kernel
theorem f0_1607 : am_tab 0 1607 = some (.iload 4, 2, 0, 0, 0, .null) := by decide +kernel
theorem f0_1609 : am_tab 0 1609 = some (.iconst 1, 1, 0, 0, 0, .null) := by decide +kernel
theorem f0_1610 : am_tab 0 1610 = some (.iadd, 1, 0, 0, 0, .null) := by decide +kernel
theorem f0_1611 : am_tab 0 1611 = some (.iaload, 1, 0, 0, 0, .null) := by decide +kernel
theorem f0_1612 : am_tab 0 1612 = some (.aload_n 3, 1, 0, 0, 0, .null) := by decide +kernel
theorem f0_1613 : am_tab 0 1613 = some (.invokestatic 189, 3, 22, 3, 5001, .int 9) := by decide +kernel
theorem f0_1616 : am_tab 0 1616 = some (.istore 5, 2, 0, 0, 0, .null) := by decide +kernel
theorem f0_1618 : am_tab 0 1618 = some (.aload_n 2, 1, 0, 0, 0, .null) := by decide +kernel
theorem f0_1619 : am_tab 0 1619 = some (.aload_n 0, 1, 0, 0, 0, .null) := by decide +kernel
theorem f0_1620 : am_tab 0 1620 = some (.iload 4, 2, 0, 0, 0, .null) := by decide +kernel
theorem f0_1622 : am_tab 0 1622 = some (.iconst 1, 1, 0, 0, 0, .null) := by decide +kernel
theorem f0_1623 : am_tab 0 1623 = some (.iadd, 1, 0, 0, 0, .null) := by decide +kernel
theorem f0_1624 : am_tab 0 1624 = some (.iaload, 1, 0, 0, 0, .null) := by decide +kernel
theorem f0_1625 : am_tab 0 1625 = some (.invokevirtual 191, 3, 230, 2, 6196, .int 0) := by decide +kernel
theorem f0_1628 : am_tab 0 1628 = some (.istore 6, 2, 0, 0, 0, .null) := by decide +kernel
theorem f0_1630 : am_tab 0 1630 = some (.aload_n 2, 1, 0, 0, 0, .null) := by decide +kernel
theorem f0_1631 : am_tab 0 1631 = some (.invokevirtual 98, 3, 143, 1, 5089, .int 0) := by decide +kernel
theorem f0_1634 : am_tab 0 1634 = some (.iload 5, 2, 0, 0, 0, .null) := by decide +kernel
theorem f0_1636 : am_tab 0 1636 = some (.if_icmp .eq 5, 3, 1641, 0, 0, .null) := by decide +kernel
theorem f0_1639 : am_tab 0 1639 = some (.iconst 0, 1, 0, 0, 0, .null) := by decide +kernel
theorem f0_1640 : am_tab 0 1640 = some (.ireturn, 1, 0, 0, 0, .null) := by decide +kernel
theorem f0_1641 : am_tab 0 1641 = some (.iload 5, 2, 0, 0, 0, .null) := by decide +kernel
theorem f0_1643 : am_tab 0 1643 = some (.ifCond .ne 15, 3, 1658, 0, 0, .null) := by decide +kernel
theorem f0_1646 : am_tab 0 1646 = some (.aload_n 3, 1, 0, 0, 0, .null) := by decide +kernel
theorem f0_1647 : am_tab 0 1647 = some (.iconst 0, 1, 0, 0, 0, .null) := by decide +kernel
theorem f0_1648 : am_tab 0 1648 = some (.laload, 1, 0, 0, 0, .null) := by decide +kernel
theorem f0_1649 : am_tab 0 1649 = some (.iload 6, 2, 0, 0, 0, .null) := by decide +kernel
theorem f0_1651 : am_tab 0 1651 = some (.i2l, 1, 0, 0, 0, .null) := by decide +kernel
theorem f0_1652 : am_tab 0 1652 = some (.lcmp, 1, 0, 0, 0, .null) := by decide +kernel
theorem f0_1653 : am_tab 0 1653 = some (.ifCond .eq 5, 3, 1658, 0, 0, .null) := by decide +kernel
theorem f0_1656 : am_tab 0 1656 = some (.iconst 0, 1, 0, 0, 0, .null) := by decide +kernel
theorem f0_1657 : am_tab 0 1657 = some (.ireturn, 1, 0, 0, 0, .null) := by decide +kernel
theorem f0_1658 : am_tab 0 1658 = some (.goto 3, 3, 1661, 0, 0, .null) := by decide +kernel
theorem f0_1661 : am_tab 0 1661 = some (.iinc 4 4, 3, 0, 0, 0, .null) := by decide +kernel
theorem f0_1664 : am_tab 0 1664 = some (.goto (-1641), 3, 23, 0, 0, .null) := by decide +kernel
theorem f0_1667 : am_tab 0 1667 = some (.iconst 1, 1, 0, 0, 0, .null) := by decide +kernel
theorem f0_1668 : am_tab 0 1668 = some (.ireturn, 1, 0, 0, 0, .null) := by decide +kernel
theorem f1_0 : am_tab 1 0 = some (.aload_n 2, 1, 0, 0, 0, .null) := by decide +kernel
theorem f1_1 : am_tab 1 1 = some (.iconst 0, 1, 0, 0, 0, .null) := by decide +kernel
theorem f1_2 : am_tab 1 2 = some (.aload_n 0, 1, 0, 0, 0, .null) := by decide +kernel
theorem f1_3 : am_tab 1 3 = some (.iload_n 1, 1, 0, 0, 0, .null) := by decide +kernel
theorem f1_4 : am_tab 1 4 = some (.invokevirtual 7, 3, 107, 2, 2204, .int 8) := by decide +kernel
theorem f1_7 : am_tab 1 7 = some (.i2l, 1, 0, 0, 0, .null) := by decide +kernel
theorem f1_8 : am_tab 1 8 = some (.lastore, 1, 0, 0, 0, .null) := by decide +kernel
theorem f1_9 : am_tab 1 9 = some (.goto 9, 3, 18, 0, 0, .null) := by decide +kernel
theorem f1_12 : am_tab 1 12 = some (.astore_n 3, 1, 0, 0, 0, .null) := by decide +kernel
theorem f1_13 : am_tab 1 13 = some (.iconst 1, 1, 0, 0, 0, .null) := by decide +kernel
theorem f1_14 : am_tab 1 14 = some (.ireturn, 1, 0, 0, 0, .null) := by decide +kernel
theorem f1_15 : am_tab 1 15 = some (.astore_n 3, 1, 0, 0, 0, .null) := by decide +kernel
theorem f1_16 : am_tab 1 16 = some (.iconst 2, 1, 0, 0, 0, .null) := by decide +kernel
theorem f1_17 : am_tab 1 17 = some (.ireturn, 1, 0, 0, 0, .null) := by decide +kernel
theorem f1_18 : am_tab 1 18 = some (.iconst 0, 1, 0, 0, 0, .null) := by decide +kernel
theorem f1_19 : am_tab 1 19 = some (.ireturn, 1, 0, 0, 0, .null) := by decide +kernel
theorem f2_0 : am_tab 2 0 = some (.aload_n 1, 1, 0, 0, 0, .null) := by decide +kernel
theorem f2_1 : am_tab 2 1 = some (.iconst 0, 1, 0, 0, 0, .null) := by decide +kernel
theorem f2_2 : am_tab 2 2 = some (.aload_n 0, 1, 0, 0, 0, .null) := by decide +kernel
theorem f2_3 : am_tab 2 3 = some (.invokevirtual 17, 3, 110, 1, 3063, .int 8) := by decide +kernel
theorem f2_6 : am_tab 2 6 = some (.i2l, 1, 0, 0, 0, .null) := by decide +kernel
theorem f2_7 : am_tab 2 7 = some (.lastore, 1, 0, 0, 0, .null) := by decide +kernel
theorem f2_8 : am_tab 2 8 = some (.goto 6, 3, 14, 0, 0, .null) := by decide +kernel
theorem f2_11 : am_tab 2 11 = some (.astore_n 2, 1, 0, 0, 0, .null) := by decide +kernel
theorem f2_12 : am_tab 2 12 = some (.iconst 1, 1, 0, 0, 0, .null) := by decide +kernel
theorem f2_13 : am_tab 2 13 = some (.ireturn, 1, 0, 0, 0, .null) := by decide +kernel
theorem f2_14 : am_tab 2 14 = some (.iconst 0, 1, 0, 0, 0, .null) := by decide +kernel
theorem f2_15 : am_tab 2 15 = some (.ireturn, 1, 0, 0, 0, .null) := by decide +kernel
theorem f3_0 : am_tab 3 0 = some (.aload_n 2, 1, 0, 0, 0, .null) := by decide +kernel
theorem f3_1 : am_tab 3 1 = some (.iconst 0, 1, 0, 0, 0, .null) := by decide +kernel
theorem f3_2 : am_tab 3 2 = some (.aload_n 0, 1, 0, 0, 0, .null) := by decide +kernel
theorem f3_3 : am_tab 3 3 = some (.iload_n 1, 1, 0, 0, 0, .null) := by decide +kernel
theorem f3_4 : am_tab 3 4 = some (.invokevirtual 21, 3, 111, 2, 3184, .int 8) := by decide +kernel
theorem f3_7 : am_tab 3 7 = some (.i2l, 1, 0, 0, 0, .null) := by decide +kernel
theorem f3_8 : am_tab 3 8 = some (.lastore, 1, 0, 0, 0, .null) := by decide +kernel
theorem f3_9 : am_tab 3 9 = some (.goto 6, 3, 15, 0, 0, .null) := by decide +kernel
theorem f3_12 : am_tab 3 12 = some (.astore_n 3, 1, 0, 0, 0, .null) := by decide +kernel
theorem f3_13 : am_tab 3 13 = some (.iconst 1, 1, 0, 0, 0, .null) := by decide +kernel
theorem f3_14 : am_tab 3 14 = some (.ireturn, 1, 0, 0, 0, .null) := by decide +kernel
theorem f3_15 : am_tab 3 15 = some (.iconst 0, 1, 0, 0, 0, .null) := by decide +kernel
theorem f3_16 : am_tab 3 16 = some (.ireturn, 1, 0, 0, 0, .null) := by decide +kernel
theorem f4_0 : am_tab 4 0 = some (.aload_n 3, 1, 0, 0, 0, .null) := by decide +kernel
theorem f4_1 : am_tab 4 1 = some (.iconst 0, 1, 0, 0, 0, .null) := by decide +kernel
theorem f4_2 : am_tab 4 2 = some (.aload_n 0, 1, 0, 0, 0, .null) := by decide +kernel
theorem f4_3 : am_tab 4 3 = some (.iload_n 1, 1, 0, 0, 0, .null) := by decide +kernel
theorem f4_4 : am_tab 4 4 = some (.iload_n 2, 1, 0, 0, 0, .null) := by decide +kernel
theorem f4_5 : am_tab 4 5 = some (.invokevirtual 24, 3, 112, 3, 3199, .int 8) := by decide +kernel
theorem f4_8 : am_tab 4 8 = some (.i2l, 1, 0, 0, 0, .null) := by decide +kernel
theorem f4_9 : am_tab 4 9 = some (.lastore, 1, 0, 0, 0, .null) := by decide +kernel
theorem f4_10 : am_tab 4 10 = some (.goto 11, 3, 21, 0, 0, .null) := by decide +kernel
theorem f4_13 : am_tab 4 13 = some (.astore 4, 2, 0, 0, 0, .null) := by decide +kernel
theorem f4_15 : am_tab 4 15 = some (.iconst 1, 1, 0, 0, 0, .null) := by decide +kernel
theorem f4_16 : am_tab 4 16 = some (.ireturn, 1, 0, 0, 0, .null) := by decide +kernel
theorem f4_17 : am_tab 4 17 = some (.astore 4, 2, 0, 0, 0, .null) := by decide +kernel
theorem f4_19 : am_tab 4 19 = some (.iconst 2, 1, 0, 0, 0, .null) := by decide +kernel
theorem f4_20 : am_tab 4 20 = some (.ireturn, 1, 0, 0, 0, .null) := by decide +kernel
theorem f4_21 : am_tab 4 21 = some (.iconst 0, 1, 0, 0, 0, .null) := by decide +kernel
theorem f4_22 : am_tab 4 22 = some (.ireturn, 1, 0, 0, 0, .null) := by decide +kernel
theorem f5_0 : am_tab 5 0 = some (.aload_n 3, 1, 0, 0, 0, .null) := by decide +kernel
theorem f5_1 : am_tab 5 1 = some (.iconst 0, 1, 0, 0, 0, .null) := by decide +kernel
theorem f5_2 : am_tab 5 2 = some (.aload_n 0, 1, 0, 0, 0, .null) := by decide +kernel
theorem f5_3 : am_tab 5 3 = some (.iload_n 1, 1, 0, 0, 0, .null) := by decide +kernel
theorem f5_4 : am_tab 5 4 = some (.iload_n 2, 1, 0, 0, 0, .null) := by decide +kernel
theorem f5_5 : am_tab 5 5 = some (.invokevirtual 30, 3, 113, 3, 3232, .int 8) := by decide +kernel
theorem f5_8 : am_tab 5 8 = some (.i2l, 1, 0, 0, 0, .null) := by decide +kernel
theorem f5_9 : am_tab 5 9 = some (.lastore, 1, 0, 0, 0, .null) := by decide +kernel
theorem f5_10 : am_tab 5 10 = some (.goto 15, 3, 25, 0, 0, .null) := by decide +kernel
theorem f5_13 : am_tab 5 13 = some (.astore 4, 2, 0, 0, 0, .null) := by decide +kernel
theorem f5_15 : am_tab 5 15 = some (.iconst 1, 1, 0, 0, 0, .null) := by decide +kernel
theorem f5_16 : am_tab 5 16 = some (.ireturn, 1, 0, 0, 0, .null) := by decide +kernel
theorem f5_17 : am_tab 5 17 = some (.astore 4, 2, 0, 0, 0, .null) := by decide +kernel
theorem f5_19 : am_tab 5 19 = some (.iconst 2, 1, 0, 0, 0, .null) := by decide +kernel
theorem f5_20 : am_tab 5 20 = some (.ireturn, 1, 0, 0, 0, .null) := by decide +kernel
theorem f5_21 : am_tab 5 21 = some (.astore 4, 2, 0, 0, 0, .null) := by decide +kernel
theorem f5_23 : am_tab 5 23 = some (.iconst 3, 1, 0, 0, 0, .null) := by decide +kernel
theorem f5_24 : am_tab 5 24 = some (.ireturn, 1, 0, 0, 0, .null) := by decide +kernel
theorem f5_25 : am_tab 5 25 = some (.iconst 0, 1, 0, 0, 0, .null) := by decide +kernel
theorem f5_26 : am_tab 5 26 = some (.ireturn, 1, 0, 0, 0, .null) := by decide +kernel
theorem f6_0 : am_tab 6 0 = some (.aload_n 3, 1, 0, 0, 0, .null) := by decide +kernel
theorem f6_1 : am_tab 6 1 = some (.iconst 0, 1, 0, 0, 0, .null) := by decide +kernel
theorem f6_2 : am_tab 6 2 = some (.aload_n 0, 1, 0, 0, 0, .null) := by decide +kernel
theorem f6_3 : am_tab 6 3 = some (.iload_n 1, 1, 0, 0, 0, .null) := by decide +kernel
theorem f6_4 : am_tab 6 4 = some (.iload_n 2, 1, 0, 0, 0, .null) := by decide +kernel
theorem f6_5 : am_tab 6 5 = some (.invokevirtual 33, 3, 114, 3, 4007, .int 8) := by decide +kernel
theorem f6_8 : am_tab 6 8 = some (.i2l, 1, 0, 0, 0, .null) := by decide +kernel
theorem f6_9 : am_tab 6 9 = some (.lastore, 1, 0, 0, 0, .null) := by decide +kernel
theorem f6_10 : am_tab 6 10 = some (.goto 11, 3, 21, 0, 0, .null) := by decide +kernel
theorem f6_13 : am_tab 6 13 = some (.astore 4, 2, 0, 0, 0, .null) := by decide +kernel
theorem f6_15 : am_tab 6 15 = some (.iconst 1, 1, 0, 0, 0, .null) := by decide +kernel
theorem f6_16 : am_tab 6 16 = some (.ireturn, 1, 0, 0, 0, .null) := by decide +kernel
theorem f6_17 : am_tab 6 17 = some (.astore 4, 2, 0, 0, 0, .null) := by decide +kernel
theorem f6_19 : am_tab 6 19 = some (.iconst 2, 1, 0, 0, 0, .null) := by decide +kernel
theorem f6_20 : am_tab 6 20 = some (.ireturn, 1, 0, 0, 0, .null) := by decide +kernel
theorem f6_21 : am_tab 6 21 = some (.iconst 0, 1, 0, 0, 0, .null) := by decide +kernel
theorem f6_22 : am_tab 6 22 = some (.ireturn, 1, 0, 0, 0, .null) := by decide +kernel
theorem f7_0 : am_tab 7 0 = some (.aload_n 3, 1, 0, 0, 0, .null) := by decide +kernel
theorem f7_1 : am_tab 7 1 = some (.iconst 0, 1, 0, 0, 0, .null) := by decide +kernel
theorem f7_2 : am_tab 7 2 = some (.aload_n 0, 1, 0, 0, 0, .null) := by decide +kernel
theorem f7_3 : am_tab 7 3 = some (.iload_n 1, 1, 0, 0, 0, .null) := by decide +kernel
theorem f7_4 : am_tab 7 4 = some (.iload_n 2, 1, 0, 0, 0, .null) := by decide +kernel
theorem f7_5 : am_tab 7 5 = some (.invokevirtual 36, 3, 115, 3, 4017, .int 8) := by decide +kernel
theorem f7_8 : am_tab 7 8 = some (.i2l, 1, 0, 0, 0, .null) := by decide +kernel
theorem f7_9 : am_tab 7 9 = some (.lastore, 1, 0, 0, 0, .null) := by decide +kernel
theorem f7_10 : am_tab 7 10 = some (.goto 7, 3, 17, 0, 0, .null) := by decide +kernel
theorem f7_13 : am_tab 7 13 = some (.astore 4, 2, 0, 0, 0, .null) := by decide +kernel
theorem f7_15 : am_tab 7 15 = some (.iconst 1, 1, 0, 0, 0, .null) := by decide +kernel
theorem f7_16 : am_tab 7 16 = some (.ireturn, 1, 0, 0, 0, .null) := by decide +kernel
theorem f7_17 : am_tab 7 17 = some (.iconst 0, 1, 0, 0, 0, .null) := by decide +kernel
theorem f7_18 : am_tab 7 18 = some (.ireturn, 1, 0, 0, 0, .null) := by decide +kernel
theorem f8_0 : am_tab 8 0 = some (.aload_n 3, 1, 0, 0, 0, .null) := by decide +kernel
theorem f8_1 : am_tab 8 1 = some (.iconst 0, 1, 0, 0, 0, .null) := by decide +kernel
theorem f8_2 : am_tab 8 2 = some (.aload_n 0, 1, 0, 0, 0, .null) := by decide +kernel
theorem f8_3 : am_tab 8 3 = some (.iload_n 1, 1, 0, 0, 0, .null) := by decide +kernel
theorem f8_4 : am_tab 8 4 = some (.iload_n 2, 1, 0, 0, 0, .null) := by decide +kernel
theorem f8_5 : am_tab 8 5 = some (.invokevirtual 40, 3, 116, 3, 4025, .int 8) := by decide +kernel
theorem f8_8 : am_tab 8 8 = some (.i2l, 1, 0, 0, 0, .null) := by decide +kernel
theorem f8_9 : am_tab 8 9 = some (.lastore, 1, 0, 0, 0, .null) := by decide +kernel
theorem f8_10 : am_tab 8 10 = some (.goto 11, 3, 21, 0, 0, .null) := by decide +kernel
theorem f8_13 : am_tab 8 13 = some (.astore 4, 2, 0, 0, 0, .null) := by decide +kernel
theorem f8_15 : am_tab 8 15 = some (.iconst 1, 1, 0, 0, 0, .null) := by decide +kernel
theorem f8_16 : am_tab 8 16 = some (.ireturn, 1, 0, 0, 0, .null) := by decide +kernel
theorem f8_17 : am_tab 8 17 = some (.astore 4, 2, 0, 0, 0, .null) := by decide +kernel
theorem f8_19 : am_tab 8 19 = some (.iconst 2, 1, 0, 0, 0, .null) := by decide +kernel
theorem f8_20 : am_tab 8 20 = some (.ireturn, 1, 0, 0, 0, .null) := by decide +kernel
theorem f8_21 : am_tab 8 21 = some (.iconst 0, 1, 0, 0, 0, .null) := by decide +kernel
theorem f8_22 : am_tab 8 22 = some (.ireturn, 1, 0, 0, 0, .null) := by decide +kernel
theorem f9_0 : am_tab 9 0 = some (.aload_n 2, 1, 0, 0, 0, .null) := by decide +kernel
theorem f9_1 : am_tab 9 1 = some (.iconst 0, 1, 0, 0, 0, .null) := by decide +kernel
theorem f9_2 : am_tab 9 2 = some (.aload_n 0, 1, 0, 0, 0, .null) := by decide +kernel
theorem f9_3 : am_tab 9 3 = some (.iload_n 1, 1, 0, 0, 0, .null) := by decide +kernel
theorem f9_4 : am_tab 9 4 = some (.invokevirtual 43, 3, 117, 2, 4037, .int 8) := by decide +kernel
theorem f9_7 : am_tab 9 7 = some (.i2l, 1, 0, 0, 0, .null) := by decide +kernel
theorem f9_8 : am_tab 9 8 = some (.lastore, 1, 0, 0, 0, .null) := by decide +kernel
theorem f9_9 : am_tab 9 9 = some (.goto 6, 3, 15, 0, 0, .null) := by decide +kernel
theorem f9_12 : am_tab 9 12 = some (.astore_n 3, 1, 0, 0, 0, .null) := by decide +kernel
theorem f9_13 : am_tab 9 13 = some (.iconst 1, 1, 0, 0, 0, .null) := by decide +kernel
theorem f9_14 : am_tab 9 14 = some (.ireturn, 1, 0, 0, 0, .null) := by decide +kernel
theorem f9_15 : am_tab 9 15 = some (.iconst 0, 1, 0, 0, 0, .null) := by decide +kernel
theorem f9_16 : am_tab 9 16 = some (.ireturn, 1, 0, 0, 0, .null) := by decide +kernel
theorem f10_0 : am_tab 10 0 = some (.aload_n 3, 1, 0, 0, 0, .null) := by decide +kernel
theorem f10_1 : am_tab 10 1 = some (.iconst 0, 1, 0, 0, 0, .null) := by decide +kernel
theorem f10_2 : am_tab 10 2 = some (.aload_n 0, 1, 0, 0, 0, .null) := by decide +kernel
theorem f10_3 : am_tab 10 3 = some (.iload_n 1, 1, 0, 0, 0, .null) := by decide +kernel
theorem f10_4 : am_tab 10 4 = some (.iload_n 2, 1, 0, 0, 0, .null) := by decide +kernel
theorem f10_5 : am_tab 10 5 = some (.invokevirtual 46, 3, 118, 3, 4048, .int 8) := by decide +kernel
theorem f10_8 : am_tab 10 8 = some (.i2l, 1, 0, 0, 0, .null) := by decide +kernel
theorem f10_9 : am_tab 10 9 = some (.lastore, 1, 0, 0, 0, .null) := by decide +kernel
theorem f10_10 : am_tab 10 10 = some (.goto 11, 3, 21, 0, 0, .null) := by decide +kernel
theorem f10_13 : am_tab 10 13 = some (.astore 4, 2, 0, 0, 0, .null) := by decide +kernel
theorem f10_15 : am_tab 10 15 = some (.iconst 1, 1, 0, 0, 0, .null) := by decide +kernel
theorem f10_16 : am_tab 10 16 = some (.ireturn, 1, 0, 0, 0, .null) := by decide +kernel
theorem f10_17 : am_tab 10 17 = some (.astore 4, 2, 0, 0, 0, .null) := by decide +kernel
theorem f10_19 : am_tab 10 19 = some (.iconst 2, 1, 0, 0, 0, .null) := by decide +kernel
theorem f10_20 : am_tab 10 20 = some (.ireturn, 1, 0, 0, 0, .null) := by decide +kernel
theorem f10_21 : am_tab 10 21 = some (.iconst 0, 1, 0, 0, 0, .null) := by decide +kernel
theorem f10_22 : am_tab 10 22 = some (.ireturn, 1, 0, 0, 0, .null) := by decide +kernel
theorem f11_0 : am_tab 11 0 = some (.aload_n 2, 1, 0, 0, 0, .null) := by decide +kernel
theorem f11_1 : am_tab 11 1 = some (.iconst 0, 1, 0, 0, 0, .null) := by decide +kernel
theorem f11_2 : am_tab 11 2 = some (.aload_n 0, 1, 0, 0, 0, .null) := by decide +kernel
theorem f11_3 : am_tab 11 3 = some (.iload_n 1, 1, 0, 0, 0, .null) := by decide +kernel
theorem f11_4 : am_tab 11 4 = some (.invokevirtual 49, 3, 120, 2, 4058, .int 8) := by decide +kernel
theorem f11_7 : am_tab 11 7 = some (.i2l, 1, 0, 0, 0, .null) := by decide +kernel
theorem f11_8 : am_tab 11 8 = some (.lastore, 1, 0, 0, 0, .null) := by decide +kernel
theorem f11_9 : am_tab 11 9 = some (.goto 9, 3, 18, 0, 0, .null) := by decide +kernel
theorem f11_12 : am_tab 11 12 = some (.astore_n 3, 1, 0, 0, 0, .null) := by decide +kernel
theorem f11_13 : am_tab 11 13 = some (.iconst 1, 1, 0, 0, 0, .null) := by decide +kernel
theorem f11_14 : am_tab 11 14 = some (.ireturn, 1, 0, 0, 0, .null) := by decide +kernel
theorem f11_15 : am_tab 11 15 = some (.astore_n 3, 1, 0, 0, 0, .null) := by decide +kernel
theorem f11_16 : am_tab 11 16 = some (.iconst 2, 1, 0, 0, 0, .null) := by decide +kernel
theorem f11_17 : am_tab 11 17 = some (.ireturn, 1, 0, 0, 0, .null) := by decide +kernel
theorem f11_18 : am_tab 11 18 = some (.iconst 0, 1, 0, 0, 0, .null) := by decide +kernel
theorem f11_19 : am_tab 11 19 = some (.ireturn, 1, 0, 0, 0, .null) := by decide +kernel
theorem f12_0 : am_tab 12 0 = some (.aload_n 2, 1, 0, 0, 0, .null) := by decide +kernel
theorem f12_1 : am_tab 12 1 = some (.iconst 0, 1, 0, 0, 0, .null) := by decide +kernel
theorem f12_2 : am_tab 12 2 = some (.aload_n 0, 1, 0, 0, 0, .null) := by decide +kernel
theorem f12_3 : am_tab 12 3 = some (.iload_n 1, 1, 0, 0, 0, .null) := by decide +kernel
theorem f12_4 : am_tab 12 4 = some (.invokevirtual 52, 3, 121, 2, 4068, .int 8) := by decide +kernel
theorem f12_7 : am_tab 12 7 = some (.i2l, 1, 0, 0, 0, .null) := by decide +kernel
theorem f12_8 : am_tab 12 8 = some (.lastore, 1, 0, 0, 0, .null) := by decide +kernel
theorem f12_9 : am_tab 12 9 = some (.goto 6, 3, 15, 0, 0, .null) := by decide +kernel
theorem f12_12 : am_tab 12 12 = some (.astore_n 3, 1, 0, 0, 0, .null) := by decide +kernel
theorem f12_13 : am_tab 12 13 = some (.iconst 1, 1, 0, 0, 0, .null) := by decide +kernel
theorem f12_14 : am_tab 12 14 = some (.ireturn, 1, 0, 0, 0, .null) := by decide +kernel
theorem f12_15 : am_tab 12 15 = some (.iconst 0, 1, 0, 0, 0, .null) := by decide +kernel
theorem f12_16 : am_tab 12 16 = some (.ireturn, 1, 0, 0, 0, .null) := by decide +kernel
theorem f13_0 : am_tab 13 0 = some (.aload_n 1, 1, 0, 0, 0, .null) := by decide +kernel
theorem f13_1 : am_tab 13 1 = some (.iconst 0, 1, 0, 0, 0, .null) := by decide +kernel
theorem f13_2 : am_tab 13 2 = some (.aload_n 0, 1, 0, 0, 0, .null) := by decide +kernel
theorem f13_3 : am_tab 13 3 = some (.invokevirtual 55, 3, 122, 1, 4076, .int 8) := by decide +kernel
theorem f13_6 : am_tab 13 6 = some (.i2l, 1, 0, 0, 0, .null) := by decide +kernel
theorem f13_7 : am_tab 13 7 = some (.lastore, 1, 0, 0, 0, .null) := by decide +kernel
theorem f13_8 : am_tab 13 8 = some (.goto 6, 3, 14, 0, 0, .null) := by decide +kernel
theorem f13_11 : am_tab 13 11 = some (.astore_n 2, 1, 0, 0, 0, .null) := by decide +kernel
theorem f13_12 : am_tab 13 12 = some (.iconst 1, 1, 0, 0, 0, .null) := by decide +kernel
theorem f13_13 : am_tab 13 13 = some (.ireturn, 1, 0, 0, 0, .null) := by decide +kernel
theorem f13_14 : am_tab 13 14 = some (.iconst 0, 1, 0, 0, 0, .null) := by decide +kernel
theorem f13_15 : am_tab 13 15 = some (.ireturn, 1, 0, 0, 0, .null) := by decide +kernel
theorem f14_0 : am_tab 14 0 = some (.aload_n 3, 1, 0, 0, 0, .null) := by decide +kernel
theorem f14_1 : am_tab 14 1 = some (.iconst 0, 1, 0, 0, 0, .null) := by decide +kernel
theorem f14_2 : am_tab 14 2 = some (.aload_n 0, 1, 0, 0, 0, .null) := by decide +kernel
theorem f14_3 : am_tab 14 3 = some (.iload_n 1, 1, 0, 0, 0, .null) := by decide +kernel
theorem f14_4 : am_tab 14 4 = some (.iload_n 2, 1, 0, 0, 0, .null) := by decide +kernel
theorem f14_5 : am_tab 14 5 = some (.invokevirtual 58, 3, 123, 3, 4088, .int 8) := by decide +kernel
theorem f14_8 : am_tab 14 8 = some (.i2l, 1, 0, 0, 0, .null) := by decide +kernel
theorem f14_9 : am_tab 14 9 = some (.lastore, 1, 0, 0, 0, .null) := by decide +kernel
theorem f14_10 : am_tab 14 10 = some (.goto 11, 3, 21, 0, 0, .null) := by decide +kernel
theorem f14_13 : am_tab 14 13 = some (.astore 4, 2, 0, 0, 0, .null) := by decide +kernel
theorem f14_15 : am_tab 14 15 = some (.iconst 1, 1, 0, 0, 0, .null) := by decide +kernel
theorem f14_16 : am_tab 14 16 = some (.ireturn, 1, 0, 0, 0, .null) := by decide +kernel
theorem f14_17 : am_tab 14 17 = some (.astore 4, 2, 0, 0, 0, .null) := by decide +kernel
theorem f14_19 : am_tab 14 19 = some (.iconst 2, 1, 0, 0, 0, .null) := by decide +kernel
theorem f14_20 : am_tab 14 20 = some (.ireturn, 1, 0, 0, 0, .null) := by decide +kernel
theorem f14_21 : am_tab 14 21 = some (.iconst 0, 1, 0, 0, 0, .null) := by decide +kernel
theorem f14_22 : am_tab 14 22 = some (.ireturn, 1, 0, 0, 0, .null) := by decide +kernel
theorem f15_0 : am_tab 15 0 = some (.aload 4, 2, 0, 0, 0, .null) := by decide +kernel
theorem f15_2 : am_tab 15 2 = some (.iconst 0, 1, 0, 0, 0, .null) := by decide +kernel
theorem f15_3 : am_tab 15 3 = some (.aload_n 0, 1, 0, 0, 0, .null) := by decide +kernel
theorem f15_4 : am_tab 15 4 = some (.iload_n 1, 1, 0, 0, 0, .null) := by decide +kernel
theorem f15_5 : am_tab 15 5 = some (.iload_n 2, 1, 0, 0, 0, .null) := by decide +kernel
theorem f15_6 : am_tab 15 6 = some (.iload_n 3, 1, 0, 0, 0, .null) := by decide +kernel
theorem f15_7 : am_tab 15 7 = some (.invokevirtual 61, 3, 125, 4, 4097, .int 8) := by decide +kernel
theorem f15_10 : am_tab 15 10 = some (.i2l, 1, 0, 0, 0, .null) := by decide +kernel
theorem f15_11 : am_tab 15 11 = some (.lastore, 1, 0, 0, 0, .null) := by decide +kernel
theorem f15_12 : am_tab 15 12 = some (.goto 11, 3, 23, 0, 0, .null) := by decide +kernel
theorem f15_15 : am_tab 15 15 = some (.astore 5, 2, 0, 0, 0, .null) := by decide +kernel
theorem f15_17 : am_tab 15 17 = some (.iconst 1, 1, 0, 0, 0, .null) := by decide +kernel
theorem f15_18 : am_tab 15 18 = some (.ireturn, 1, 0, 0, 0, .null) := by decide +kernel
theorem f15_19 : am_tab 15 19 = some (.astore 5, 2, 0, 0, 0, .null) := by decide +kernel
theorem f15_21 : am_tab 15 21 = some (.iconst 2, 1, 0, 0, 0, .null) := by decide +kernel
theorem f15_22 : am_tab 15 22 = some (.ireturn, 1, 0, 0, 0, .null) := by decide +kernel
theorem f15_23 : am_tab 15 23 = some (.iconst 0, 1, 0, 0, 0, .null) := by decide +kernel
theorem f15_24 : am_tab 15 24 = some (.ireturn, 1, 0, 0, 0, .null) := by decide +kernel
theorem f16_0 : am_tab 16 0 = some (.aload_n 2, 1, 0, 0, 0, .null) := by decide +kernel
theorem f16_1 : am_tab 16 1 = some (.iconst 0, 1, 0, 0, 0, .null) := by decide +kernel
theorem f16_2 : am_tab 16 2 = some (.aload_n 0, 1, 0, 0, 0, .null) := by decide +kernel
theorem f16_3 : am_tab 16 3 = some (.iload_n 1, 1, 0, 0, 0, .null) := by decide +kernel
theorem f16_4 : am_tab 16 4 = some (.invokevirtual 65, 3, 126, 2, 4118, .int 8) := by decide +kernel
theorem f16_7 : am_tab 16 7 = some (.i2l, 1, 0, 0, 0, .null) := by decide +kernel
theorem f16_8 : am_tab 16 8 = some (.lastore, 1, 0, 0, 0, .null) := by decide +kernel
theorem f16_9 : am_tab 16 9 = some (.goto 6, 3, 15, 0, 0, .null) := by decide +kernel
theorem f16_12 : am_tab 16 12 = some (.astore_n 3, 1, 0, 0, 0, .null) := by decide +kernel
theorem f16_13 : am_tab 16 13 = some (.iconst 1, 1, 0, 0, 0, .null) := by decide +kernel
theorem f16_14 : am_tab 16 14 = some (.ireturn, 1, 0, 0, 0, .null) := by decide +kernel
theorem f16_15 : am_tab 16 15 = some (.iconst 0, 1, 0, 0, 0, .null) := by decide +kernel
theorem f16_16 : am_tab 16 16 = some (.ireturn, 1, 0, 0, 0, .null) := by decide +kernel
theorem f17_0 : am_tab 17 0 = some (.aload_n 2, 1, 0, 0, 0, .null) := by decide +kernel
theorem f17_1 : am_tab 17 1 = some (.iconst 0, 1, 0, 0, 0, .null) := by decide +kernel
theorem f17_2 : am_tab 17 2 = some (.aload_n 0, 1, 0, 0, 0, .null) := by decide +kernel
theorem f17_3 : am_tab 17 3 = some (.iload_n 1, 1, 0, 0, 0, .null) := by decide +kernel
theorem f17_4 : am_tab 17 4 = some (.invokevirtual 68, 3, 127, 2, 4146, .int 8) := by decide +kernel
theorem f17_7 : am_tab 17 7 = some (.i2l, 1, 0, 0, 0, .null) := by decide +kernel
theorem f17_8 : am_tab 17 8 = some (.lastore, 1, 0, 0, 0, .null) := by decide +kernel
theorem f17_9 : am_tab 17 9 = some (.goto 6, 3, 15, 0, 0, .null) := by decide +kernel
theorem f17_12 : am_tab 17 12 = some (.astore_n 3, 1, 0, 0, 0, .null) := by decide +kernel
theorem f17_13 : am_tab 17 13 = some (.iconst 1, 1, 0, 0, 0, .null) := by decide +kernel
theorem f17_14 : am_tab 17 14 = some (.ireturn, 1, 0, 0, 0, .null) := by decide +kernel
theorem f17_15 : am_tab 17 15 = some (.iconst 0, 1, 0, 0, 0, .null) := by decide +kernel
theorem f17_16 : am_tab 17 16 = some (.ireturn, 1, 0, 0, 0, .null) := by decide +kernel
theorem f18_0 : am_tab 18 0 = some (.aload_n 2, 1, 0, 0, 0, .null) := by decide +kernel
theorem f18_1 : am_tab 18 1 = some (.iconst 0, 1, 0, 0, 0, .null) := by decide +kernel
theorem f18_2 : am_tab 18 2 = some (.aload_n 0, 1, 0, 0, 0, .null) := by decide +kernel
theorem f18_3 : am_tab 18 3 = some (.iload_n 1, 1, 0, 0, 0, .null) := by decide +kernel
theorem f18_4 : am_tab 18 4 = some (.invokevirtual 71, 3, 128, 2, 4154, .int 8) := by decide +kernel
theorem f18_7 : am_tab 18 7 = some (.i2l, 1, 0, 0, 0, .null) := by decide +kernel
theorem f18_8 : am_tab 18 8 = some (.lastore, 1, 0, 0, 0, .null) := by decide +kernel
theorem f18_9 : am_tab 18 9 = some (.goto 9, 3, 18, 0, 0, .null) := by decide +kernel
theorem f18_12 : am_tab 18 12 = some (.astore_n 3, 1, 0, 0, 0, .null) := by decide +kernel
theorem f18_13 : am_tab 18 13 = some (.iconst 1, 1, 0, 0, 0, .null) := by decide +kernel
theorem f18_14 : am_tab 18 14 = some (.ireturn, 1, 0, 0, 0, .null) := by decide +kernel
theorem f18_15 : am_tab 18 15 = some (.astore_n 3, 1, 0, 0, 0, .null) := by decide +kernel
theorem f18_16 : am_tab 18 16 = some (.iconst 2, 1, 0, 0, 0, .null) := by decide +kernel
theorem f18_17 : am_tab 18 17 = some (.ireturn, 1, 0, 0, 0, .null) := by decide +kernel
theorem f18_18 : am_tab 18 18 = some (.iconst 0, 1, 0, 0, 0, .null) := by decide +kernel
theorem f18_19 : am_tab 18 19 = some (.ireturn, 1, 0, 0, 0, .null) := by decide +kernel
theorem f19_0 : am_tab 19 0 = some (.aload 4, 2, 0, 0, 0, .null) := by decide +kernel
theorem f19_2 : am_tab 19 2 = some (.iconst 0, 1, 0, 0, 0, .null) := by decide +kernel
theorem f19_3 : am_tab 19 3 = some (.aload_n 0, 1, 0, 0, 0, .null) := by decide +kernel
theorem f19_4 : am_tab 19 4 = some (.iload_n 1, 1, 0, 0, 0, .null) := by decide +kernel
theorem f19_5 : am_tab 19 5 = some (.lload_n 2, 1, 0, 0, 0, .null) := by decide +kernel
theorem f19_6 : am_tab 19 6 = some (.invokevirtual 74, 3, 130, 3, 4176, .int 8) := by decide +kernel
theorem f19_9 : am_tab 19 9 = some (.i2l, 1, 0, 0, 0, .null) := by decide +kernel
theorem f19_10 : am_tab 19 10 = some (.lastore, 1, 0, 0, 0, .null) := by decide +kernel
theorem f19_11 : am_tab 19 11 = some (.goto 7, 3, 18, 0, 0, .null) := by decide +kernel
theorem f19_14 : am_tab 19 14 = some (.astore 5, 2, 0, 0, 0, .null) := by decide +kernel
theorem f19_16 : am_tab 19 16 = some (.iconst 1, 1, 0, 0, 0, .null) := by decide +kernel
theorem f19_17 : am_tab 19 17 = some (.ireturn, 1, 0, 0, 0, .null) := by decide +kernel
theorem f19_18 : am_tab 19 18 = some (.iconst 0, 1, 0, 0, 0, .null) := by decide +kernel
theorem f19_19 : am_tab 19 19 = some (.ireturn, 1, 0, 0, 0, .null) := by decide +kernel
theorem f20_0 : am_tab 20 0 = some (.aload 4, 2, 0, 0, 0, .null) := by decide +kernel
theorem f20_2 : am_tab 20 2 = some (.iconst 0, 1, 0, 0, 0, .null) := by decide +kernel
theorem f20_3 : am_tab 20 3 = some (.aload_n 0, 1, 0, 0, 0, .null) := by decide +kernel
theorem f20_4 : am_tab 20 4 = some (.lload_n 1, 1, 0, 0, 0, .null) := by decide +kernel
theorem f20_5 : am_tab 20 5 = some (.iload_n 3, 1, 0, 0, 0, .null) := by decide +kernel
theorem f20_6 : am_tab 20 6 = some (.invokevirtual 78, 3, 131, 3, 4204, .int 8) := by decide +kernel
theorem f20_9 : am_tab 20 9 = some (.i2l, 1, 0, 0, 0, .null) := by decide +kernel
theorem f20_10 : am_tab 20 10 = some (.lastore, 1, 0, 0, 0, .null) := by decide +kernel
theorem f20_11 : am_tab 20 11 = some (.goto 7, 3, 18, 0, 0, .null) := by decide +kernel
theorem f20_14 : am_tab 20 14 = some (.astore 5, 2, 0, 0, 0, .null) := by decide +kernel
theorem f20_16 : am_tab 20 16 = some (.iconst 1, 1, 0, 0, 0, .null) := by decide +kernel
theorem f20_17 : am_tab 20 17 = some (.ireturn, 1, 0, 0, 0, .null) := by decide +kernel
theorem f20_18 : am_tab 20 18 = some (.iconst 0, 1, 0, 0, 0, .null) := by decide +kernel
theorem f20_19 : am_tab 20 19 = some (.ireturn, 1, 0, 0, 0, .null) := by decide +kernel
theorem f21_0 : am_tab 21 0 = some (.aload_n 2, 1, 0, 0, 0, .null) := by decide +kernel
theorem f21_1 : am_tab 21 1 = some (.iconst 0, 1, 0, 0, 0, .null) := by decide +kernel
theorem f21_2 : am_tab 21 2 = some (.aload_n 0, 1, 0, 0, 0, .null) := by decide +kernel
theorem f21_3 : am_tab 21 3 = some (.iload_n 1, 1, 0, 0, 0, .null) := by decide +kernel
theorem f21_4 : am_tab 21 4 = some (.invokevirtual 82, 3, 132, 2, 4227, .int 8) := by decide +kernel
theorem f21_7 : am_tab 21 7 = some (.i2l, 1, 0, 0, 0, .null) := by decide +kernel
theorem f21_8 : am_tab 21 8 = some (.lastore, 1, 0, 0, 0, .null) := by decide +kernel
theorem f21_9 : am_tab 21 9 = some (.goto 6, 3, 15, 0, 0, .null) := by decide +kernel
theorem f21_12 : am_tab 21 12 = some (.astore_n 3, 1, 0, 0, 0, .null) := by decide +kernel
theorem f21_13 : am_tab 21 13 = some (.iconst 1, 1, 0, 0, 0, .null) := by decide +kernel
theorem f21_14 : am_tab 21 14 = some (.ireturn, 1, 0, 0, 0, .null) := by decide +kernel
theorem f21_15 : am_tab 21 15 = some (.iconst 0, 1, 0, 0, 0, .null) := by decide +kernel
theorem f21_16 : am_tab 21 16 = some (.ireturn, 1, 0, 0, 0, .null) := by decide +kernel
theorem f22_0 : am_tab 22 0 = some (.aload_n 2, 1, 0, 0, 0, .null) := by decide +kernel
theorem f22_1 : am_tab 22 1 = some (.iconst 0, 1, 0, 0, 0, .null) := by decide +kernel
theorem f22_2 : am_tab 22 2 = some (.aload_n 0, 1, 0, 0, 0, .null) := by decide +kernel
theorem f22_3 : am_tab 22 3 = some (.iload_n 1, 1, 0, 0, 0, .null) := by decide +kernel
theorem f22_4 : am_tab 22 4 = some (.invokevirtual 85, 3, 133, 2, 5004, .int 8) := by decide +kernel
theorem f22_7 : am_tab 22 7 = some (.i2l, 1, 0, 0, 0, .null) := by decide +kernel
theorem f22_8 : am_tab 22 8 = some (.lastore, 1, 0, 0, 0, .null) := by decide +kernel
theorem f22_9 : am_tab 22 9 = some (.goto 9, 3, 18, 0, 0, .null) := by decide +kernel
theorem f22_12 : am_tab 22 12 = some (.astore_n 3, 1, 0, 0, 0, .null) := by decide +kernel
theorem f22_13 : am_tab 22 13 = some (.iconst 1, 1, 0, 0, 0, .null) := by decide +kernel
theorem f22_14 : am_tab 22 14 = some (.ireturn, 1, 0, 0, 0, .null) := by decide +kernel
theorem f22_15 : am_tab 22 15 = some (.astore_n 3, 1, 0, 0, 0, .null) := by decide +kernel
theorem f22_16 : am_tab 22 16 = some (.iconst 2, 1, 0, 0, 0, .null) := by decide +kernel
theorem f22_17 : am_tab 22 17 = some (.ireturn, 1, 0, 0, 0, .null) := by decide +kernel
theorem f22_18 : am_tab 22 18 = some (.iconst 0, 1, 0, 0, 0, .null) := by decide +kernel
theorem f22_19 : am_tab 22 19 = some (.ireturn, 1, 0, 0, 0, .null) := by decide +kernel
theorem f23_0 : am_tab 23 0 = some (.aload_n 0, 1, 0, 0, 0, .null) := by decide +kernel
theorem f23_1 : am_tab 23 1 = some (.invokespecial 3, 3, 0, 0, 1105, .int 6) := by decide +kernel
theorem f23_4 : am_tab 23 4 = some (.aload_n 0, 1, 0, 0, 0, .null) := by decide +kernel
theorem f23_5 : am_tab 23 5 = some (.bipush 49, 2, 0, 0, 0, .null) := by decide +kernel
theorem f23_7 : am_tab 23 7 = some (.newarray .int, 2, 0, 0, 1093, .null) := by decide +kernel
theorem f23_9 : am_tab 23 9 = some (.putfield 9, 3, 0, 0, 1106, .null) := by decide +kernel
theorem f23_12 : am_tab 23 12 = some (.return_, 1, 0, 0, 0, .null) := by decide +kernel
theorem f24_0 : am_tab 24 0 = some (.iconst 0, 1, 0, 0, 0, .null) := by decide +kernel
theorem f24_1 : am_tab 24 1 = some (.istore_n 3, 1, 0, 0, 0, .null) := by decide +kernel
theorem f24_2 : am_tab 24 2 = some (.iload_n 3, 1, 0, 0, 0, .null) := by decide +kernel
theorem f24_3 : am_tab 24 3 = some (.bipush 48, 2, 0, 0, 0, .null) := by decide +kernel
theorem f24_5 : am_tab 24 5 = some (.if_icmp .ge 30, 3, 35, 0, 0, .null) := by decide +kernel
theorem f24_8 : am_tab 24 8 = some (.aload_n 0, 1, 0, 0, 0, .null) := by decide +kernel
theorem f24_9 : am_tab 24 9 = some (.getfield 9, 3, 0, 0, 1106, .null) := by decide +kernel
theorem f24_12 : am_tab 24 12 = some (.iload_n 3, 1, 0, 0, 0, .null) := by decide +kernel
theorem f24_13 : am_tab 24 13 = some (.iconst 1, 1, 0, 0, 0, .null) := by decide +kernel
theorem f24_14 : am_tab 24 14 = some (.iadd, 1, 0, 0, 0, .null) := by decide +kernel
theorem f24_15 : am_tab 24 15 = some (.aload_n 0, 1, 0, 0, 0, .null) := by decide +kernel
theorem f24_16 : am_tab 24 16 = some (.getfield 9, 3, 0, 0, 1106, .null) := by decide +kernel
theorem f24_19 : am_tab 24 19 = some (.iload_n 3, 1, 0, 0, 0, .null) := by decide +kernel
theorem f24_20 : am_tab 24 20 = some (.iaload, 1, 0, 0, 0, .null) := by decide +kernel
theorem f24_21 : am_tab 24 21 = some (.aload_n 1, 1, 0, 0, 0, .null) := by decide +kernel
theorem f24_22 : am_tab 24 22 = some (.iload_n 3, 1, 0, 0, 0, .null) := by decide +kernel
theorem f24_23 : am_tab 24 23 = some (.iload_n 2, 1, 0, 0, 0, .null) := by decide +kernel
theorem f24_24 : am_tab 24 24 = some (.invokevirtual 15, 3, 45, 3, 2147, .int 0) := by decide +kernel
theorem f24_27 : am_tab 24 27 = some (.iadd, 1, 0, 0, 0, .null) := by decide +kernel
theorem f24_28 : am_tab 24 28 = some (.iastore, 1, 0, 0, 0, .null) := by decide +kernel
theorem f24_29 : am_tab 24 29 = some (.iinc 3 1, 3, 0, 0, 0, .null) := by decide +kernel
theorem f24_32 : am_tab 24 32 = some (.goto (-30), 3, 2, 0, 0, .null) := by decide +kernel
theorem f24_35 : am_tab 24 35 = some (.return_, 1, 0, 0, 0, .null) := by decide +kernel
theorem f25_0 : am_tab 25 0 = some (.iload_n 1, 1, 0, 0, 0, .null) := by decide +kernel
theorem f25_1 : am_tab 25 1 = some (.ifCond .lt 30, 3, 31, 0, 0, .null) := by decide +kernel
theorem f25_4 : am_tab 25 4 = some (.iload_n 1, 1, 0, 0, 0, .null) := by decide +kernel
theorem f25_5 : am_tab 25 5 = some (.iload_n 2, 1, 0, 0, 0, .null) := by decide +kernel
theorem f25_6 : am_tab 25 6 = some (.if_icmp .ge 25, 3, 31, 0, 0, .null) := by decide +kernel
theorem f25_9 : am_tab 25 9 = some (.iload_n 2, 1, 0, 0, 0, .null) := by decide +kernel
theorem f25_10 : am_tab 25 10 = some (.bipush 48, 2, 0, 0, 0, .null) := by decide +kernel
theorem f25_12 : am_tab 25 12 = some (.if_icmp .gt 19, 3, 31, 0, 0, .null) := by decide +kernel
theorem f25_15 : am_tab 25 15 = some (.aload_n 0, 1, 0, 0, 0, .null) := by decide +kernel
theorem f25_16 : am_tab 25 16 = some (.getfield 9, 3, 0, 0, 1106, .null) := by decide +kernel
theorem f25_19 : am_tab 25 19 = some (.iload_n 2, 1, 0, 0, 0, .null) := by decide +kernel
theorem f25_20 : am_tab 25 20 = some (.iaload, 1, 0, 0, 0, .null) := by decide +kernel
theorem f25_21 : am_tab 25 21 = some (.aload_n 0, 1, 0, 0, 0, .null) := by decide +kernel
theorem f25_22 : am_tab 25 22 = some (.getfield 9, 3, 0, 0, 1106, .null) := by decide +kernel
theorem f25_25 : am_tab 25 25 = some (.iload_n 1, 1, 0, 0, 0, .null) := by decide +kernel
theorem f25_26 : am_tab 25 26 = some (.iaload, 1, 0, 0, 0, .null) := by decide +kernel
theorem f25_27 : am_tab 25 27 = some (.isub, 1, 0, 0, 0, .null) := by decide +kernel
theorem f25_28 : am_tab 25 28 = some (.goto 4, 3, 32, 0, 0, .null) := by decide +kernel
theorem f25_31 : am_tab 25 31 = some (.iconst 0, 1, 0, 0, 0, .null) := by decide +kernel
theorem f25_32 : am_tab 25 32 = some (.ireturn, 1, 0, 0, 0, .null) := by decide +kernel
theorem f26_0 : am_tab 26 0 = some (.aload_n 0, 1, 0, 0, 0, .null) := by decide +kernel
theorem f26_1 : am_tab 26 1 = some (.iload_n 1, 1, 0, 0, 0, .null) := by decide +kernel
theorem f26_2 : am_tab 26 2 = some (.iload_n 2, 1, 0, 0, 0, .null) := by decide +kernel
theorem f26_3 : am_tab 26 3 = some (.invokevirtual 21, 3, 25, 3, 2183, .int 0) := by decide +kernel
theorem f26_6 : am_tab 26 6 = some (.istore_n 3, 1, 0, 0, 0, .null) := by decide +kernel
theorem f26_7 : am_tab 26 7 = some (.iload_n 1, 1, 0, 0, 0, .null) := by decide +kernel
theorem f26_8 : am_tab 26 8 = some (.iconst 1, 1, 0, 0, 0, .null) := by decide +kernel
theorem f26_9 : am_tab 26 9 = some (.iadd, 1, 0, 0, 0, .null) := by decide +kernel
theorem f26_10 : am_tab 26 10 = some (.istore 4, 2, 0, 0, 0, .null) := by decide +kernel
theorem f26_12 : am_tab 26 12 = some (.iload_n 3, 1, 0, 0, 0, .null) := by decide +kernel
theorem f26_13 : am_tab 26 13 = some (.istore 5, 2, 0, 0, 0, .null) := by decide +kernel
theorem f26_15 : am_tab 26 15 = some (.iload_n 1, 1, 0, 0, 0, .null) := by decide +kernel
theorem f26_16 : am_tab 26 16 = some (.iconst 1, 1, 0, 0, 0, .null) := by decide +kernel
theorem f26_17 : am_tab 26 17 = some (.iadd, 1, 0, 0, 0, .null) := by decide +kernel
theorem f26_18 : am_tab 26 18 = some (.istore 6, 2, 0, 0, 0, .null) := by decide +kernel
theorem f26_20 : am_tab 26 20 = some (.iload 6, 2, 0, 0, 0, .null) := by decide +kernel
theorem f26_22 : am_tab 26 22 = some (.iload_n 2, 1, 0, 0, 0, .null) := by decide +kernel
theorem f26_23 : am_tab 26 23 = some (.if_icmp .ge 40, 3, 63, 0, 0, .null) := by decide +kernel
theorem f26_26 : am_tab 26 26 = some (.iconst 2, 1, 0, 0, 0, .null) := by decide +kernel
theorem f26_27 : am_tab 26 27 = some (.aload_n 0, 1, 0, 0, 0, .null) := by decide +kernel
theorem f26_28 : am_tab 26 28 = some (.iload_n 1, 1, 0, 0, 0, .null) := by decide +kernel
theorem f26_29 : am_tab 26 29 = some (.iload 6, 2, 0, 0, 0, .null) := by decide +kernel
theorem f26_31 : am_tab 26 31 = some (.invokevirtual 21, 3, 25, 3, 2183, .int 0) := by decide +kernel
theorem f26_34 : am_tab 26 34 = some (.imul, 1, 0, 0, 0, .null) := by decide +kernel
theorem f26_35 : am_tab 26 35 = some (.iload_n 3, 1, 0, 0, 0, .null) := by decide +kernel
theorem f26_36 : am_tab 26 36 = some (.isub, 1, 0, 0, 0, .null) := by decide +kernel
theorem f26_37 : am_tab 26 37 = some (.invokestatic 24, 3, 0, 0, 2187, .int 12) := by decide +kernel
theorem f26_40 : am_tab 26 40 = some (.istore 7, 2, 0, 0, 0, .null) := by decide +kernel
theorem f26_42 : am_tab 26 42 = some (.iload 7, 2, 0, 0, 0, .null) := by decide +kernel
theorem f26_44 : am_tab 26 44 = some (.iload 5, 2, 0, 0, 0, .null) := by decide +kernel
theorem f26_46 : am_tab 26 46 = some (.if_icmp .ge 11, 3, 57, 0, 0, .null) := by decide +kernel
theorem f26_49 : am_tab 26 49 = some (.iload 6, 2, 0, 0, 0, .null) := by decide +kernel
theorem f26_51 : am_tab 26 51 = some (.istore 4, 2, 0, 0, 0, .null) := by decide +kernel
theorem f26_53 : am_tab 26 53 = some (.iload 7, 2, 0, 0, 0, .null) := by decide +kernel
theorem f26_55 : am_tab 26 55 = some (.istore 5, 2, 0, 0, 0, .null) := by decide +kernel
theorem f26_57 : am_tab 26 57 = some (.iinc 6 1, 3, 0, 0, 0, .null) := by decide +kernel
theorem f26_60 : am_tab 26 60 = some (.goto (-40), 3, 20, 0, 0, .null) := by decide +kernel
theorem f26_63 : am_tab 26 63 = some (.iload 4, 2, 0, 0, 0, .null) := by decide +kernel
theorem f26_65 : am_tab 26 65 = some (.ireturn, 1, 0, 0, 0, .null) := by decide +kernel
theorem f27_0 : am_tab 27 0 = some (.aload_n 0, 1, 0, 0, 0, .null) := by decide +kernel
theorem f27_1 : am_tab 27 1 = some (.invokespecial 3, 3, 0, 0, 1036, .int 6) := by decide +kernel
theorem f27_4 : am_tab 27 4 = some (.aload_n 0, 1, 0, 0, 0, .null) := by decide +kernel
theorem f27_5 : am_tab 27 5 = some (.new 9, 3, 3, 12, 1037, .null) := by decide +kernel
theorem f27_8 : am_tab 27 8 = some (.dup, 1, 0, 0, 0, .null) := by decide +kernel
theorem f27_9 : am_tab 27 9 = some (.invokespecial 11, 3, 41, 1, 1039, .int 4) := by decide +kernel
theorem f27_12 : am_tab 27 12 = some (.putfield 12, 3, 1, 0, 1127, .null) := by decide +kernel
theorem f27_15 : am_tab 27 15 = some (.aload_n 0, 1, 0, 0, 0, .null) := by decide +kernel
theorem f27_16 : am_tab 27 16 = some (.new 18, 3, 5, 4, 1094, .null) := by decide +kernel
theorem f27_19 : am_tab 27 19 = some (.dup, 1, 0, 0, 0, .null) := by decide +kernel
theorem f27_20 : am_tab 27 20 = some (.invokespecial 20, 3, 80, 1, 1096, .int 5) := by decide +kernel
theorem f27_23 : am_tab 27 23 = some (.putfield 21, 3, 1, 1, 1131, .null) := by decide +kernel
theorem f27_26 : am_tab 27 26 = some (.return_, 1, 0, 0, 0, .null) := by decide +kernel
theorem f28_0 : am_tab 28 0 = some (.iload_n 1, 1, 0, 0, 0, .null) := by decide +kernel
theorem f28_1 : am_tab 28 1 = some (.tableswitch 161 97 119 #[107, 161, 114, 161, 161, 128, 161, 161, 161, 161, 155, 135, 161, 150, 161, 161, 161, 161, 144, 161, 161, 161, 121], 107, 0, 0, 0, .null) := by decide +kernel
theorem f28_108 : am_tab 28 108 = some (.aload_n 0, 1, 0, 0, 0, .null) := by decide +kernel
theorem f28_109 : am_tab 28 109 = some (.iload_n 2, 1, 0, 0, 0, .null) := by decide +kernel
theorem f28_110 : am_tab 28 110 = some (.iconst 1, 1, 0, 0, 0, .null) := by decide +kernel
theorem f28_111 : am_tab 28 111 = some (.invokevirtual 25, 3, 30, 3, 3083, .int 0) := by decide +kernel
theorem f28_114 : am_tab 28 114 = some (.ireturn, 1, 0, 0, 0, .null) := by decide +kernel
theorem f28_115 : am_tab 28 115 = some (.aload_n 0, 1, 0, 0, 0, .null) := by decide +kernel
theorem f28_116 : am_tab 28 116 = some (.iload_n 2, 1, 0, 0, 0, .null) := by decide +kernel
theorem f28_117 : am_tab 28 117 = some (.iconst 0, 1, 0, 0, 0, .null) := by decide +kernel
theorem f28_118 : am_tab 28 118 = some (.invokevirtual 25, 3, 30, 3, 3083, .int 0) := by decide +kernel
theorem f28_121 : am_tab 28 121 = some (.ireturn, 1, 0, 0, 0, .null) := by decide +kernel
theorem f28_122 : am_tab 28 122 = some (.aload_n 0, 1, 0, 0, 0, .null) := by decide +kernel
theorem f28_123 : am_tab 28 123 = some (.iload_n 2, 1, 0, 0, 0, .null) := by decide +kernel
theorem f28_124 : am_tab 28 124 = some (.iload_n 3, 1, 0, 0, 0, .null) := by decide +kernel
theorem f28_125 : am_tab 28 125 = some (.invokevirtual 29, 3, 29, 3, 3093, .int 0) := by decide +kernel
theorem f28_128 : am_tab 28 128 = some (.ireturn, 1, 0, 0, 0, .null) := by decide +kernel
theorem f28_129 : am_tab 28 129 = some (.aload_n 0, 1, 0, 0, 0, .null) := by decide +kernel
theorem f28_130 : am_tab 28 130 = some (.iload_n 2, 1, 0, 0, 0, .null) := by decide +kernel
theorem f28_131 : am_tab 28 131 = some (.iconst 1, 1, 0, 0, 0, .null) := by decide +kernel
theorem f28_132 : am_tab 28 132 = some (.invokevirtual 33, 3, 31, 3, 3104, .int 0) := by decide +kernel
theorem f28_135 : am_tab 28 135 = some (.ireturn, 1, 0, 0, 0, .null) := by decide +kernel
theorem f28_136 : am_tab 28 136 = some (.aload_n 0, 1, 0, 0, 0, .null) := by decide +kernel
theorem f28_137 : am_tab 28 137 = some (.iload_n 2, 1, 0, 0, 0, .null) := by decide +kernel
theorem f28_138 : am_tab 28 138 = some (.iload_n 3, 1, 0, 0, 0, .null) := by decide +kernel
theorem f28_139 : am_tab 28 139 = some (.iconst 2, 1, 0, 0, 0, .null) := by decide +kernel
theorem f28_140 : am_tab 28 140 = some (.isub, 1, 0, 0, 0, .null) := by decide +kernel
theorem f28_141 : am_tab 28 141 = some (.invokevirtual 36, 3, 33, 3, 3123, .int 0) := by decide +kernel
theorem f28_144 : am_tab 28 144 = some (.ireturn, 1, 0, 0, 0, .null) := by decide +kernel
theorem f28_145 : am_tab 28 145 = some (.aload_n 0, 1, 0, 0, 0, .null) := by decide +kernel
theorem f28_146 : am_tab 28 146 = some (.iload_n 2, 1, 0, 0, 0, .null) := by decide +kernel
theorem f28_147 : am_tab 28 147 = some (.invokevirtual 39, 3, 32, 2, 3139, .int 0) := by decide +kernel
theorem f28_150 : am_tab 28 150 = some (.ireturn, 1, 0, 0, 0, .null) := by decide +kernel
theorem f28_151 : am_tab 28 151 = some (.aload_n 0, 1, 0, 0, 0, .null) := by decide +kernel
theorem f28_152 : am_tab 28 152 = some (.invokevirtual 43, 3, 34, 1, 3163, .int 0) := by decide +kernel
theorem f28_155 : am_tab 28 155 = some (.ireturn, 1, 0, 0, 0, .null) := by decide +kernel
theorem f28_156 : am_tab 28 156 = some (.aload_n 0, 1, 0, 0, 0, .null) := by decide +kernel
theorem f28_157 : am_tab 28 157 = some (.iload_n 2, 1, 0, 0, 0, .null) := by decide +kernel
theorem f28_158 : am_tab 28 158 = some (.invokevirtual 47, 3, 35, 2, 3168, .int 0) := by decide +kernel
theorem f28_161 : am_tab 28 161 = some (.ireturn, 1, 0, 0, 0, .null) := by decide +kernel
theorem f28_162 : am_tab 28 162 = some (.iconst 0, 1, 0, 0, 0, .null) := by decide +kernel
theorem f28_163 : am_tab 28 163 = some (.ireturn, 1, 0, 0, 0, .null) := by decide +kernel
theorem f29_0 : am_tab 29 0 = some (.iload_n 1, 1, 0, 0, 0, .null) := by decide +kernel
theorem f29_1 : am_tab 29 1 = some (.invokestatic 50, 3, 134, 1, 3087, .int 3) := by decide +kernel
theorem f29_4 : am_tab 29 4 = some (.ifCond .eq 10, 3, 14, 0, 0, .null) := by decide +kernel
theorem f29_7 : am_tab 29 7 = some (.iload_n 2, 1, 0, 0, 0, .null) := by decide +kernel
theorem f29_8 : am_tab 29 8 = some (.invokestatic 53, 3, 136, 1, 3097, .int 3) := by decide +kernel
theorem f29_11 : am_tab 29 11 = some (.ifCond .ne 5, 3, 16, 0, 0, .null) := by decide +kernel
theorem f29_14 : am_tab 29 14 = some (.iconst 0, 1, 0, 0, 0, .null) := by decide +kernel
theorem f29_15 : am_tab 29 15 = some (.ireturn, 1, 0, 0, 0, .null) := by decide +kernel
theorem f29_16 : am_tab 29 16 = some (.aload_n 0, 1, 0, 0, 0, .null) := by decide +kernel
theorem f29_17 : am_tab 29 17 = some (.getfield 12, 3, 1, 0, 1127, .null) := by decide +kernel
theorem f29_20 : am_tab 29 20 = some (.iload_n 1, 1, 0, 0, 0, .null) := by decide +kernel
theorem f29_21 : am_tab 29 21 = some (.iload_n 2, 1, 0, 0, 0, .null) := by decide +kernel
theorem f29_22 : am_tab 29 22 = some (.invokevirtual 56, 3, 58, 3, 3100, .int 0) := by decide +kernel
theorem f29_25 : am_tab 29 25 = some (.iconst 1, 1, 0, 0, 0, .null) := by decide +kernel
theorem f29_26 : am_tab 29 26 = some (.ireturn, 1, 0, 0, 0, .null) := by decide +kernel
theorem f30_0 : am_tab 30 0 = some (.iload_n 1, 1, 0, 0, 0, .null) := by decide +kernel
theorem f30_1 : am_tab 30 1 = some (.invokestatic 50, 3, 134, 1, 3087, .int 3) := by decide +kernel
theorem f30_4 : am_tab 30 4 = some (.ifCond .ne 5, 3, 9, 0, 0, .null) := by decide +kernel
theorem f30_7 : am_tab 30 7 = some (.iconst 0, 1, 0, 0, 0, .null) := by decide +kernel
theorem f30_8 : am_tab 30 8 = some (.ireturn, 1, 0, 0, 0, .null) := by decide +kernel
theorem f30_9 : am_tab 30 9 = some (.aload_n 0, 1, 0, 0, 0, .null) := by decide +kernel
theorem f30_10 : am_tab 30 10 = some (.getfield 12, 3, 1, 0, 1127, .null) := by decide +kernel
theorem f30_13 : am_tab 30 13 = some (.iload_n 1, 1, 0, 0, 0, .null) := by decide +kernel
theorem f30_14 : am_tab 30 14 = some (.iload_n 2, 1, 0, 0, 0, .null) := by decide +kernel
theorem f30_15 : am_tab 30 15 = some (.invokevirtual 60, 3, 59, 3, 3088, .int 0) := by decide +kernel
theorem f30_18 : am_tab 30 18 = some (.iconst 1, 1, 0, 0, 0, .null) := by decide +kernel
theorem f30_19 : am_tab 30 19 = some (.ireturn, 1, 0, 0, 0, .null) := by decide +kernel
theorem f31_0 : am_tab 31 0 = some (.aload_n 0, 1, 0, 0, 0, .null) := by decide +kernel
theorem f31_1 : am_tab 31 1 = some (.getfield 12, 3, 1, 0, 1127, .null) := by decide +kernel
theorem f31_4 : am_tab 31 4 = some (.iload_n 1, 1, 0, 0, 0, .null) := by decide +kernel
theorem f31_5 : am_tab 31 5 = some (.iload_n 2, 1, 0, 0, 0, .null) := by decide +kernel
theorem f31_6 : am_tab 31 6 = some (.invokevirtual 64, 3, 57, 3, 3108, .int 0) := by decide +kernel
theorem f31_9 : am_tab 31 9 = some (.ifCond .ne 5, 3, 14, 0, 0, .null) := by decide +kernel
theorem f31_12 : am_tab 31 12 = some (.iconst 0, 1, 0, 0, 0, .null) := by decide +kernel
theorem f31_13 : am_tab 31 13 = some (.ireturn, 1, 0, 0, 0, .null) := by decide +kernel
theorem f31_14 : am_tab 31 14 = some (.aload_n 0, 1, 0, 0, 0, .null) := by decide +kernel
theorem f31_15 : am_tab 31 15 = some (.getfield 12, 3, 1, 0, 1127, .null) := by decide +kernel
theorem f31_18 : am_tab 31 18 = some (.iload_n 1, 1, 0, 0, 0, .null) := by decide +kernel
theorem f31_19 : am_tab 31 19 = some (.iload_n 2, 1, 0, 0, 0, .null) := by decide +kernel
theorem f31_20 : am_tab 31 20 = some (.invokevirtual 67, 3, 61, 3, 3115, .int 0) := by decide +kernel
theorem f31_23 : am_tab 31 23 = some (.iconst 1, 1, 0, 0, 0, .null) := by decide +kernel
theorem f31_24 : am_tab 31 24 = some (.ireturn, 1, 0, 0, 0, .null) := by decide +kernel
theorem f32_0 : am_tab 32 0 = some (.iload_n 1, 1, 0, 0, 0, .null) := by decide +kernel
theorem f32_1 : am_tab 32 1 = some (.invokestatic 70, 3, 138, 1, 3143, .int 3) := by decide +kernel
theorem f32_4 : am_tab 32 4 = some (.ifCond .ne 5, 3, 9, 0, 0, .null) := by decide +kernel
theorem f32_7 : am_tab 32 7 = some (.iconst 0, 1, 0, 0, 0, .null) := by decide +kernel
theorem f32_8 : am_tab 32 8 = some (.ireturn, 1, 0, 0, 0, .null) := by decide +kernel
theorem f32_9 : am_tab 32 9 = some (.aload_n 0, 1, 0, 0, 0, .null) := by decide +kernel
theorem f32_10 : am_tab 32 10 = some (.getfield 12, 3, 1, 0, 1127, .null) := by decide +kernel
theorem f32_13 : am_tab 32 13 = some (.aload_n 0, 1, 0, 0, 0, .null) := by decide +kernel
theorem f32_14 : am_tab 32 14 = some (.getfield 12, 3, 1, 0, 1127, .null) := by decide +kernel
theorem f32_17 : am_tab 32 17 = some (.iload_n 1, 1, 0, 0, 0, .null) := by decide +kernel
theorem f32_18 : am_tab 32 18 = some (.invokevirtual 73, 3, 68, 2, 3146, .int 0) := by decide +kernel
theorem f32_21 : am_tab 32 21 = some (.invokevirtual 77, 3, 62, 2, 3162, .int 0) := by decide +kernel
theorem f32_24 : am_tab 32 24 = some (.iconst 1, 1, 0, 0, 0, .null) := by decide +kernel
theorem f32_25 : am_tab 32 25 = some (.ireturn, 1, 0, 0, 0, .null) := by decide +kernel
theorem f33_0 : am_tab 33 0 = some (.aload_n 0, 1, 0, 0, 0, .null) := by decide +kernel
theorem f33_1 : am_tab 33 1 = some (.getfield 12, 3, 1, 0, 1127, .null) := by decide +kernel
theorem f33_4 : am_tab 33 4 = some (.iload_n 1, 1, 0, 0, 0, .null) := by decide +kernel
theorem f33_5 : am_tab 33 5 = some (.invokevirtual 81, 3, 49, 2, 3127, .int 0) := by decide +kernel
theorem f33_8 : am_tab 33 8 = some (.ifCond .eq 10, 3, 18, 0, 0, .null) := by decide +kernel
theorem f33_11 : am_tab 33 11 = some (.iload_n 2, 1, 0, 0, 0, .null) := by decide +kernel
theorem f33_12 : am_tab 33 12 = some (.invokestatic 84, 3, 137, 1, 3131, .int 3) := by decide +kernel
theorem f33_15 : am_tab 33 15 = some (.ifCond .ne 5, 3, 20, 0, 0, .null) := by decide +kernel
theorem f33_18 : am_tab 33 18 = some (.iconst 0, 1, 0, 0, 0, .null) := by decide +kernel
theorem f33_19 : am_tab 33 19 = some (.ireturn, 1, 0, 0, 0, .null) := by decide +kernel
theorem f33_20 : am_tab 33 20 = some (.aload_n 0, 1, 0, 0, 0, .null) := by decide +kernel
theorem f33_21 : am_tab 33 21 = some (.getfield 12, 3, 1, 0, 1127, .null) := by decide +kernel
theorem f33_24 : am_tab 33 24 = some (.iload_n 1, 1, 0, 0, 0, .null) := by decide +kernel
theorem f33_25 : am_tab 33 25 = some (.iload_n 2, 1, 0, 0, 0, .null) := by decide +kernel
theorem f33_26 : am_tab 33 26 = some (.invokevirtual 87, 3, 60, 3, 3134, .int 0) := by decide +kernel
theorem f33_29 : am_tab 33 29 = some (.iconst 1, 1, 0, 0, 0, .null) := by decide +kernel
theorem f33_30 : am_tab 33 30 = some (.ireturn, 1, 0, 0, 0, .null) := by decide +kernel
theorem f34_0 : am_tab 34 0 = some (.aload_n 0, 1, 0, 0, 0, .null) := by decide +kernel
theorem f34_1 : am_tab 34 1 = some (.getfield 12, 3, 1, 0, 1127, .null) := by decide +kernel
theorem f34_4 : am_tab 34 4 = some (.invokevirtual 90, 3, 63, 1, 3167, .int 0) := by decide +kernel
theorem f34_7 : am_tab 34 7 = some (.iconst 1, 1, 0, 0, 0, .null) := by decide +kernel
theorem f34_8 : am_tab 34 8 = some (.ireturn, 1, 0, 0, 0, .null) := by decide +kernel
theorem f35_0 : am_tab 35 0 = some (.iload_n 1, 1, 0, 0, 0, .null) := by decide +kernel
theorem f35_1 : am_tab 35 1 = some (.invokestatic 93, 3, 139, 1, 3172, .int 3) := by decide +kernel
theorem f35_4 : am_tab 35 4 = some (.ifCond .eq 13, 3, 17, 0, 0, .null) := by decide +kernel
theorem f35_7 : am_tab 35 7 = some (.aload_n 0, 1, 0, 0, 0, .null) := by decide +kernel
theorem f35_8 : am_tab 35 8 = some (.getfield 12, 3, 1, 0, 1127, .null) := by decide +kernel
theorem f35_11 : am_tab 35 11 = some (.invokevirtual 96, 3, 56, 1, 3175, .int 0) := by decide +kernel
theorem f35_14 : am_tab 35 14 = some (.ifCond .ne 5, 3, 19, 0, 0, .null) := by decide +kernel
theorem f35_17 : am_tab 35 17 = some (.iconst 0, 1, 0, 0, 0, .null) := by decide +kernel
theorem f35_18 : am_tab 35 18 = some (.ireturn, 1, 0, 0, 0, .null) := by decide +kernel
theorem f35_19 : am_tab 35 19 = some (.aload_n 0, 1, 0, 0, 0, .null) := by decide +kernel
theorem f35_20 : am_tab 35 20 = some (.getfield 21, 3, 1, 1, 1131, .null) := by decide +kernel
theorem f35_23 : am_tab 35 23 = some (.aload_n 0, 1, 0, 0, 0, .null) := by decide +kernel
theorem f35_24 : am_tab 35 24 = some (.getfield 12, 3, 1, 0, 1127, .null) := by decide +kernel
theorem f35_27 : am_tab 35 27 = some (.iload_n 1, 1, 0, 0, 0, .null) := by decide +kernel
theorem f35_28 : am_tab 35 28 = some (.invokevirtual 99, 3, 81, 3, 3176, .int 0) := by decide +kernel
theorem f35_31 : am_tab 35 31 = some (.aload_n 0, 1, 0, 0, 0, .null) := by decide +kernel
theorem f35_32 : am_tab 35 32 = some (.getfield 12, 3, 1, 0, 1127, .null) := by decide +kernel
theorem f35_35 : am_tab 35 35 = some (.aload_n 0, 1, 0, 0, 0, .null) := by decide +kernel
theorem f35_36 : am_tab 35 36 = some (.getfield 21, 3, 1, 1, 1131, .null) := by decide +kernel
theorem f35_39 : am_tab 35 39 = some (.getfield 103, 3, 5, 2, 1113, .int 1) := by decide +kernel
theorem f35_42 : am_tab 35 42 = some (.aload_n 0, 1, 0, 0, 0, .null) := by decide +kernel
theorem f35_43 : am_tab 35 43 = some (.getfield 21, 3, 1, 1, 1131, .null) := by decide +kernel
theorem f35_46 : am_tab 35 46 = some (.getfield 107, 3, 5, 3, 1116, .int 1) := by decide +kernel
theorem f35_49 : am_tab 35 49 = some (.invokevirtual 111, 3, 64, 3, 3177, .int 0) := by decide +kernel
theorem f35_52 : am_tab 35 52 = some (.iconst 1, 1, 0, 0, 0, .null) := by decide +kernel
theorem f35_53 : am_tab 35 53 = some (.ireturn, 1, 0, 0, 0, .null) := by decide +kernel
theorem f36_0 : am_tab 36 0 = some (.aload_n 0, 1, 0, 0, 0, .null) := by decide +kernel
theorem f36_1 : am_tab 36 1 = some (.invokespecial 3, 3, 0, 0, 1181, .int 6) := by decide +kernel
theorem f36_4 : am_tab 36 4 = some (.aload_n 0, 1, 0, 0, 0, .null) := by decide +kernel
theorem f36_5 : am_tab 36 5 = some (.bipush 14, 2, 0, 0, 0, .null) := by decide +kernel
theorem f36_7 : am_tab 36 7 = some (.anewarray 9, 3, 4, 0, 1182, .null) := by decide +kernel
theorem f36_10 : am_tab 36 10 = some (.putfield 11, 3, 2, 0, 1185, .null) := by decide +kernel
theorem f36_13 : am_tab 36 13 = some (.iconst 0, 1, 0, 0, 0, .null) := by decide +kernel
theorem f36_14 : am_tab 36 14 = some (.istore_n 1, 1, 0, 0, 0, .null) := by decide +kernel
theorem f36_15 : am_tab 36 15 = some (.iload_n 1, 1, 0, 0, 0, .null) := by decide +kernel
theorem f36_16 : am_tab 36 16 = some (.bipush 14, 2, 0, 0, 0, .null) := by decide +kernel
theorem f36_18 : am_tab 36 18 = some (.if_icmp .ge 22, 3, 40, 0, 0, .null) := by decide +kernel
theorem f36_21 : am_tab 36 21 = some (.aload_n 0, 1, 0, 0, 0, .null) := by decide +kernel
theorem f36_22 : am_tab 36 22 = some (.getfield 11, 3, 2, 0, 1185, .null) := by decide +kernel
theorem f36_25 : am_tab 36 25 = some (.iload_n 1, 1, 0, 0, 0, .null) := by decide +kernel
theorem f36_26 : am_tab 36 26 = some (.new 9, 3, 3, 12, 1182, .null) := by decide +kernel
theorem f36_29 : am_tab 36 29 = some (.dup, 1, 0, 0, 0, .null) := by decide +kernel
theorem f36_30 : am_tab 36 30 = some (.invokespecial 17, 3, 41, 1, 1184, .int 4) := by decide +kernel
theorem f36_33 : am_tab 36 33 = some (.aastore, 1, 0, 0, 0, .null) := by decide +kernel
theorem f36_34 : am_tab 36 34 = some (.iinc 1 1, 3, 0, 0, 0, .null) := by decide +kernel
theorem f36_37 : am_tab 36 37 = some (.goto (-22), 3, 15, 0, 0, .null) := by decide +kernel
theorem f36_40 : am_tab 36 40 = some (.return_, 1, 0, 0, 0, .null) := by decide +kernel
theorem f37_0 : am_tab 37 0 = some (.aload_n 0, 1, 0, 0, 0, .null) := by decide +kernel
theorem f37_1 : am_tab 37 1 = some (.iconst 0, 1, 0, 0, 0, .null) := by decide +kernel
theorem f37_2 : am_tab 37 2 = some (.putfield 18, 3, 2, 2, 1187, .null) := by decide +kernel
theorem f37_5 : am_tab 37 5 = some (.return_, 1, 0, 0, 0, .null) := by decide +kernel
theorem f38_0 : am_tab 38 0 = some (.aload_n 0, 1, 0, 0, 0, .null) := by decide +kernel
theorem f38_1 : am_tab 38 1 = some (.aload_n 0, 1, 0, 0, 0, .null) := by decide +kernel
theorem f38_2 : am_tab 38 2 = some (.getfield 22, 3, 2, 1, 1186, .null) := by decide +kernel
theorem f38_5 : am_tab 38 5 = some (.invokevirtual 25, 3, 40, 2, 2084, .int 0) := by decide +kernel
theorem f38_8 : am_tab 38 8 = some (.astore_n 2, 1, 0, 0, 0, .null) := by decide +kernel
theorem f38_9 : am_tab 38 9 = some (.aload_n 2, 1, 0, 0, 0, .null) := by decide +kernel
theorem f38_10 : am_tab 38 10 = some (.ifnull 46, 3, 56, 0, 0, .null) := by decide +kernel
theorem f38_13 : am_tab 38 13 = some (.aload_n 2, 1, 0, 0, 0, .null) := by decide +kernel
theorem f38_14 : am_tab 38 14 = some (.aload_n 1, 1, 0, 0, 0, .null) := by decide +kernel
theorem f38_15 : am_tab 38 15 = some (.invokevirtual 29, 3, 42, 2, 2088, .int 0) := by decide +kernel
theorem f38_18 : am_tab 38 18 = some (.aload_n 0, 1, 0, 0, 0, .null) := by decide +kernel
theorem f38_19 : am_tab 38 19 = some (.aload_n 0, 1, 0, 0, 0, .null) := by decide +kernel
theorem f38_20 : am_tab 38 20 = some (.getfield 22, 3, 2, 1, 1186, .null) := by decide +kernel
theorem f38_23 : am_tab 38 23 = some (.bipush 13, 2, 0, 0, 0, .null) := by decide +kernel
theorem f38_25 : am_tab 38 25 = some (.if_icmp .ne 7, 3, 32, 0, 0, .null) := by decide +kernel
theorem f38_28 : am_tab 38 28 = some (.iconst 0, 1, 0, 0, 0, .null) := by decide +kernel
theorem f38_29 : am_tab 38 29 = some (.goto 9, 3, 38, 0, 0, .null) := by decide +kernel
theorem f38_32 : am_tab 38 32 = some (.aload_n 0, 1, 0, 0, 0, .null) := by decide +kernel
theorem f38_33 : am_tab 38 33 = some (.getfield 22, 3, 2, 1, 1186, .null) := by decide +kernel
theorem f38_36 : am_tab 38 36 = some (.iconst 1, 1, 0, 0, 0, .null) := by decide +kernel
theorem f38_37 : am_tab 38 37 = some (.iadd, 1, 0, 0, 0, .null) := by decide +kernel
theorem f38_38 : am_tab 38 38 = some (.putfield 22, 3, 2, 1, 1186, .null) := by decide +kernel
theorem f38_41 : am_tab 38 41 = some (.aload_n 0, 1, 0, 0, 0, .null) := by decide +kernel
theorem f38_42 : am_tab 38 42 = some (.aload_n 0, 1, 0, 0, 0, .null) := by decide +kernel
theorem f38_43 : am_tab 38 43 = some (.getfield 18, 3, 2, 2, 1187, .null) := by decide +kernel
theorem f38_46 : am_tab 38 46 = some (.iconst 1, 1, 0, 0, 0, .null) := by decide +kernel
theorem f38_47 : am_tab 38 47 = some (.iadd, 1, 0, 0, 0, .null) := by decide +kernel
theorem f38_48 : am_tab 38 48 = some (.bipush 14, 2, 0, 0, 0, .null) := by decide +kernel
theorem f38_50 : am_tab 38 50 = some (.invokestatic 33, 3, 0, 0, 2095, .int 11) := by decide +kernel
theorem f38_53 : am_tab 38 53 = some (.putfield 18, 3, 2, 2, 1187, .null) := by decide +kernel
theorem f38_56 : am_tab 38 56 = some (.return_, 1, 0, 0, 0, .null) := by decide +kernel
theorem f39_0 : am_tab 39 0 = some (.aload_n 0, 1, 0, 0, 0, .null) := by decide +kernel
theorem f39_1 : am_tab 39 1 = some (.getfield 22, 3, 2, 1, 1186, .null) := by decide +kernel
theorem f39_4 : am_tab 39 4 = some (.ifCond .ne 8, 3, 12, 0, 0, .null) := by decide +kernel
theorem f39_7 : am_tab 39 7 = some (.bipush 13, 2, 0, 0, 0, .null) := by decide +kernel
theorem f39_9 : am_tab 39 9 = some (.goto 9, 3, 18, 0, 0, .null) := by decide +kernel
theorem f39_12 : am_tab 39 12 = some (.aload_n 0, 1, 0, 0, 0, .null) := by decide +kernel
theorem f39_13 : am_tab 39 13 = some (.getfield 22, 3, 2, 1, 1186, .null) := by decide +kernel
theorem f39_16 : am_tab 39 16 = some (.iconst 1, 1, 0, 0, 0, .null) := by decide +kernel
theorem f39_17 : am_tab 39 17 = some (.isub, 1, 0, 0, 0, .null) := by decide +kernel
theorem f39_18 : am_tab 39 18 = some (.istore_n 2, 1, 0, 0, 0, .null) := by decide +kernel
theorem f39_19 : am_tab 39 19 = some (.aload_n 0, 1, 0, 0, 0, .null) := by decide +kernel
theorem f39_20 : am_tab 39 20 = some (.iload_n 2, 1, 0, 0, 0, .null) := by decide +kernel
theorem f39_21 : am_tab 39 21 = some (.invokevirtual 25, 3, 40, 2, 2084, .int 0) := by decide +kernel
theorem f39_24 : am_tab 39 24 = some (.astore_n 3, 1, 0, 0, 0, .null) := by decide +kernel
theorem f39_25 : am_tab 39 25 = some (.aload_n 0, 1, 0, 0, 0, .null) := by decide +kernel
theorem f39_26 : am_tab 39 26 = some (.getfield 18, 3, 2, 2, 1187, .null) := by decide +kernel
theorem f39_29 : am_tab 39 29 = some (.ifCond .le 27, 3, 56, 0, 0, .null) := by decide +kernel
theorem f39_32 : am_tab 39 32 = some (.aload_n 3, 1, 0, 0, 0, .null) := by decide +kernel
theorem f39_33 : am_tab 39 33 = some (.ifnull 23, 3, 56, 0, 0, .null) := by decide +kernel
theorem f39_36 : am_tab 39 36 = some (.aload_n 1, 1, 0, 0, 0, .null) := by decide +kernel
theorem f39_37 : am_tab 39 37 = some (.aload_n 3, 1, 0, 0, 0, .null) := by decide +kernel
theorem f39_38 : am_tab 39 38 = some (.invokevirtual 29, 3, 42, 2, 2088, .int 0) := by decide +kernel
theorem f39_41 : am_tab 39 41 = some (.aload_n 0, 1, 0, 0, 0, .null) := by decide +kernel
theorem f39_42 : am_tab 39 42 = some (.iload_n 2, 1, 0, 0, 0, .null) := by decide +kernel
theorem f39_43 : am_tab 39 43 = some (.putfield 22, 3, 2, 1, 1186, .null) := by decide +kernel
theorem f39_46 : am_tab 39 46 = some (.aload_n 0, 1, 0, 0, 0, .null) := by decide +kernel
theorem f39_47 : am_tab 39 47 = some (.dup, 1, 0, 0, 0, .null) := by decide +kernel
theorem f39_48 : am_tab 39 48 = some (.getfield 18, 3, 2, 2, 1187, .null) := by decide +kernel
theorem f39_51 : am_tab 39 51 = some (.iconst 1, 1, 0, 0, 0, .null) := by decide +kernel
theorem f39_52 : am_tab 39 52 = some (.isub, 1, 0, 0, 0, .null) := by decide +kernel
theorem f39_53 : am_tab 39 53 = some (.putfield 18, 3, 2, 2, 1187, .null) := by decide +kernel
theorem f39_56 : am_tab 39 56 = some (.return_, 1, 0, 0, 0, .null) := by decide +kernel
theorem f40_0 : am_tab 40 0 = some (.iload_n 1, 1, 0, 0, 0, .null) := by decide +kernel
theorem f40_1 : am_tab 40 1 = some (.ifCond .lt 18, 3, 19, 0, 0, .null) := by decide +kernel
theorem f40_4 : am_tab 40 4 = some (.iload_n 1, 1, 0, 0, 0, .null) := by decide +kernel
theorem f40_5 : am_tab 40 5 = some (.bipush 14, 2, 0, 0, 0, .null) := by decide +kernel
theorem f40_7 : am_tab 40 7 = some (.if_icmp .ge 12, 3, 19, 0, 0, .null) := by decide +kernel
theorem f40_10 : am_tab 40 10 = some (.aload_n 0, 1, 0, 0, 0, .null) := by decide +kernel
theorem f40_11 : am_tab 40 11 = some (.getfield 11, 3, 2, 0, 1185, .null) := by decide +kernel
theorem f40_14 : am_tab 40 14 = some (.iload_n 1, 1, 0, 0, 0, .null) := by decide +kernel
theorem f40_15 : am_tab 40 15 = some (.aaload, 1, 0, 0, 0, .null) := by decide +kernel
theorem f40_16 : am_tab 40 16 = some (.goto 4, 3, 20, 0, 0, .null) := by decide +kernel
theorem f40_19 : am_tab 40 19 = some (.aconst_null, 1, 0, 0, 0, .null) := by decide +kernel
theorem f40_20 : am_tab 40 20 = some (.areturn, 1, 0, 0, 0, .null) := by decide +kernel
theorem f41_0 : am_tab 41 0 = some (.aload_n 0, 1, 0, 0, 0, .null) := by decide +kernel
theorem f41_1 : am_tab 41 1 = some (.invokespecial 3, 3, 0, 0, 1042, .int 6) := by decide +kernel
theorem f41_4 : am_tab 41 4 = some (.aload_n 0, 1, 0, 0, 0, .null) := by decide +kernel
theorem f41_5 : am_tab 41 5 = some (.bipush 48, 2, 0, 0, 0, .null) := by decide +kernel
theorem f41_7 : am_tab 41 7 = some (.newarray .int, 2, 0, 0, 1093, .null) := by decide +kernel
theorem f41_9 : am_tab 41 9 = some (.putfield 9, 3, 3, 0, 1043, .null) := by decide +kernel
theorem f41_12 : am_tab 41 12 = some (.aload_n 0, 1, 0, 0, 0, .null) := by decide +kernel
theorem f41_13 : am_tab 41 13 = some (.bipush 48, 2, 0, 0, 0, .null) := by decide +kernel
theorem f41_15 : am_tab 41 15 = some (.newarray .int, 2, 0, 0, 1093, .null) := by decide +kernel
theorem f41_17 : am_tab 41 17 = some (.putfield 15, 3, 3, 1, 1044, .null) := by decide +kernel
theorem f41_20 : am_tab 41 20 = some (.aload_n 0, 1, 0, 0, 0, .null) := by decide +kernel
theorem f41_21 : am_tab 41 21 = some (.bipush 12, 2, 0, 0, 0, .null) := by decide +kernel
theorem f41_23 : am_tab 41 23 = some (.newarray .int, 2, 0, 0, 1093, .null) := by decide +kernel
theorem f41_25 : am_tab 41 25 = some (.putfield 18, 3, 3, 2, 1045, .null) := by decide +kernel
theorem f41_28 : am_tab 41 28 = some (.aload_n 0, 1, 0, 0, 0, .null) := by decide +kernel
theorem f41_29 : am_tab 41 29 = some (.bipush 12, 2, 0, 0, 0, .null) := by decide +kernel
theorem f41_31 : am_tab 41 31 = some (.newarray .int, 2, 0, 0, 1093, .null) := by decide +kernel
theorem f41_33 : am_tab 41 33 = some (.putfield 21, 3, 3, 3, 1046, .null) := by decide +kernel
theorem f41_36 : am_tab 41 36 = some (.aload_n 0, 1, 0, 0, 0, .null) := by decide +kernel
theorem f41_37 : am_tab 41 37 = some (.iconst 1, 1, 0, 0, 0, .null) := by decide +kernel
theorem f41_38 : am_tab 41 38 = some (.putfield 24, 3, 3, 8, 1056, .null) := by decide +kernel
theorem f41_41 : am_tab 41 41 = some (.iconst 0, 1, 0, 0, 0, .null) := by decide +kernel
theorem f41_42 : am_tab 41 42 = some (.istore_n 1, 1, 0, 0, 0, .null) := by decide +kernel
theorem f41_43 : am_tab 41 43 = some (.iload_n 1, 1, 0, 0, 0, .null) := by decide +kernel
theorem f41_44 : am_tab 41 44 = some (.bipush 48, 2, 0, 0, 0, .null) := by decide +kernel
theorem f41_46 : am_tab 41 46 = some (.if_icmp .ge 16, 3, 62, 0, 0, .null) := by decide +kernel
theorem f41_49 : am_tab 41 49 = some (.aload_n 0, 1, 0, 0, 0, .null) := by decide +kernel
theorem f41_50 : am_tab 41 50 = some (.getfield 9, 3, 3, 0, 1043, .null) := by decide +kernel
theorem f41_53 : am_tab 41 53 = some (.iload_n 1, 1, 0, 0, 0, .null) := by decide +kernel
theorem f41_54 : am_tab 41 54 = some (.iconst 1, 1, 0, 0, 0, .null) := by decide +kernel
theorem f41_55 : am_tab 41 55 = some (.iastore, 1, 0, 0, 0, .null) := by decide +kernel
theorem f41_56 : am_tab 41 56 = some (.iinc 1 1, 3, 0, 0, 0, .null) := by decide +kernel
theorem f41_59 : am_tab 41 59 = some (.goto (-16), 3, 43, 0, 0, .null) := by decide +kernel
theorem f41_62 : am_tab 41 62 = some (.return_, 1, 0, 0, 0, .null) := by decide +kernel
theorem f42_0 : am_tab 42 0 = some (.aload_n 1, 1, 0, 0, 0, .null) := by decide +kernel
theorem f42_1 : am_tab 42 1 = some (.getfield 9, 3, 3, 0, 1043, .null) := by decide +kernel
theorem f42_4 : am_tab 42 4 = some (.iconst 0, 1, 0, 0, 0, .null) := by decide +kernel
theorem f42_5 : am_tab 42 5 = some (.aload_n 0, 1, 0, 0, 0, .null) := by decide +kernel
theorem f42_6 : am_tab 42 6 = some (.getfield 9, 3, 3, 0, 1043, .null) := by decide +kernel
theorem f42_9 : am_tab 42 9 = some (.iconst 0, 1, 0, 0, 0, .null) := by decide +kernel
theorem f42_10 : am_tab 42 10 = some (.bipush 48, 2, 0, 0, 0, .null) := by decide +kernel
theorem f42_12 : am_tab 42 12 = some (.invokestatic 28, 3, 0, 0, 2092, .int 7) := by decide +kernel
theorem f42_15 : am_tab 42 15 = some (.aload_n 1, 1, 0, 0, 0, .null) := by decide +kernel
theorem f42_16 : am_tab 42 16 = some (.getfield 15, 3, 3, 1, 1044, .null) := by decide +kernel
theorem f42_19 : am_tab 42 19 = some (.iconst 0, 1, 0, 0, 0, .null) := by decide +kernel
theorem f42_20 : am_tab 42 20 = some (.aload_n 0, 1, 0, 0, 0, .null) := by decide +kernel
theorem f42_21 : am_tab 42 21 = some (.getfield 15, 3, 3, 1, 1044, .null) := by decide +kernel
theorem f42_24 : am_tab 42 24 = some (.iconst 0, 1, 0, 0, 0, .null) := by decide +kernel
theorem f42_25 : am_tab 42 25 = some (.bipush 48, 2, 0, 0, 0, .null) := by decide +kernel
theorem f42_27 : am_tab 42 27 = some (.invokestatic 28, 3, 0, 0, 2092, .int 7) := by decide +kernel
theorem f42_30 : am_tab 42 30 = some (.aload_n 1, 1, 0, 0, 0, .null) := by decide +kernel
theorem f42_31 : am_tab 42 31 = some (.getfield 18, 3, 3, 2, 1045, .null) := by decide +kernel
theorem f42_34 : am_tab 42 34 = some (.iconst 0, 1, 0, 0, 0, .null) := by decide +kernel
theorem f42_35 : am_tab 42 35 = some (.aload_n 0, 1, 0, 0, 0, .null) := by decide +kernel
theorem f42_36 : am_tab 42 36 = some (.getfield 18, 3, 3, 2, 1045, .null) := by decide +kernel
theorem f42_39 : am_tab 42 39 = some (.iconst 0, 1, 0, 0, 0, .null) := by decide +kernel
theorem f42_40 : am_tab 42 40 = some (.bipush 12, 2, 0, 0, 0, .null) := by decide +kernel
theorem f42_42 : am_tab 42 42 = some (.invokestatic 28, 3, 0, 0, 2092, .int 7) := by decide +kernel
theorem f42_45 : am_tab 42 45 = some (.aload_n 1, 1, 0, 0, 0, .null) := by decide +kernel
theorem f42_46 : am_tab 42 46 = some (.getfield 21, 3, 3, 3, 1046, .null) := by decide +kernel
theorem f42_49 : am_tab 42 49 = some (.iconst 0, 1, 0, 0, 0, .null) := by decide +kernel
theorem f42_50 : am_tab 42 50 = some (.aload_n 0, 1, 0, 0, 0, .null) := by decide +kernel
theorem f42_51 : am_tab 42 51 = some (.getfield 21, 3, 3, 3, 1046, .null) := by decide +kernel
theorem f42_54 : am_tab 42 54 = some (.iconst 0, 1, 0, 0, 0, .null) := by decide +kernel
theorem f42_55 : am_tab 42 55 = some (.bipush 12, 2, 0, 0, 0, .null) := by decide +kernel
theorem f42_57 : am_tab 42 57 = some (.invokestatic 28, 3, 0, 0, 2092, .int 7) := by decide +kernel
theorem f42_60 : am_tab 42 60 = some (.aload_n 0, 1, 0, 0, 0, .null) := by decide +kernel
theorem f42_61 : am_tab 42 61 = some (.aload_n 1, 1, 0, 0, 0, .null) := by decide +kernel
theorem f42_62 : am_tab 42 62 = some (.getfield 34, 3, 3, 4, 1047, .null) := by decide +kernel
theorem f42_65 : am_tab 42 65 = some (.putfield 34, 3, 3, 4, 1047, .null) := by decide +kernel
theorem f42_68 : am_tab 42 68 = some (.aload_n 0, 1, 0, 0, 0, .null) := by decide +kernel
theorem f42_69 : am_tab 42 69 = some (.aload_n 1, 1, 0, 0, 0, .null) := by decide +kernel
theorem f42_70 : am_tab 42 70 = some (.getfield 38, 3, 3, 5, 1048, .null) := by decide +kernel
theorem f42_73 : am_tab 42 73 = some (.putfield 38, 3, 3, 5, 1048, .null) := by decide +kernel
theorem f42_76 : am_tab 42 76 = some (.aload_n 0, 1, 0, 0, 0, .null) := by decide +kernel
theorem f42_77 : am_tab 42 77 = some (.aload_n 1, 1, 0, 0, 0, .null) := by decide +kernel
theorem f42_78 : am_tab 42 78 = some (.getfield 41, 3, 3, 6, 1051, .null) := by decide +kernel
theorem f42_81 : am_tab 42 81 = some (.putfield 41, 3, 3, 6, 1051, .null) := by decide +kernel
theorem f42_84 : am_tab 42 84 = some (.aload_n 0, 1, 0, 0, 0, .null) := by decide +kernel
theorem f42_85 : am_tab 42 85 = some (.aload_n 1, 1, 0, 0, 0, .null) := by decide +kernel
theorem f42_86 : am_tab 42 86 = some (.getfield 44, 3, 3, 7, 1054, .null) := by decide +kernel
theorem f42_89 : am_tab 42 89 = some (.putfield 44, 3, 3, 7, 1054, .null) := by decide +kernel
theorem f42_92 : am_tab 42 92 = some (.aload_n 0, 1, 0, 0, 0, .null) := by decide +kernel
theorem f42_93 : am_tab 42 93 = some (.aload_n 1, 1, 0, 0, 0, .null) := by decide +kernel
theorem f42_94 : am_tab 42 94 = some (.getfield 24, 3, 3, 8, 1056, .null) := by decide +kernel
theorem f42_97 : am_tab 42 97 = some (.putfield 24, 3, 3, 8, 1056, .null) := by decide +kernel
theorem f42_100 : am_tab 42 100 = some (.aload_n 0, 1, 0, 0, 0, .null) := by decide +kernel
theorem f42_101 : am_tab 42 101 = some (.aload_n 1, 1, 0, 0, 0, .null) := by decide +kernel
theorem f42_102 : am_tab 42 102 = some (.getfield 48, 3, 3, 9, 1060, .null) := by decide +kernel
theorem f42_105 : am_tab 42 105 = some (.putfield 48, 3, 3, 9, 1060, .null) := by decide +kernel
theorem f42_108 : am_tab 42 108 = some (.aload_n 0, 1, 0, 0, 0, .null) := by decide +kernel
theorem f42_109 : am_tab 42 109 = some (.aload_n 1, 1, 0, 0, 0, .null) := by decide +kernel
theorem f42_110 : am_tab 42 110 = some (.getfield 51, 3, 3, 10, 1063, .null) := by decide +kernel
theorem f42_113 : am_tab 42 113 = some (.putfield 51, 3, 3, 10, 1063, .null) := by decide +kernel
theorem f42_116 : am_tab 42 116 = some (.aload_n 0, 1, 0, 0, 0, .null) := by decide +kernel
theorem f42_117 : am_tab 42 117 = some (.aload_n 1, 1, 0, 0, 0, .null) := by decide +kernel
theorem f42_118 : am_tab 42 118 = some (.getfield 54, 3, 3, 11, 1065, .null) := by decide +kernel
theorem f42_121 : am_tab 42 121 = some (.putfield 54, 3, 3, 11, 1065, .null) := by decide +kernel
theorem f42_124 : am_tab 42 124 = some (.return_, 1, 0, 0, 0, .null) := by decide +kernel
theorem f43_0 : am_tab 43 0 = some (.iload_n 1, 1, 0, 0, 0, .null) := by decide +kernel
theorem f43_1 : am_tab 43 1 = some (.invokestatic 57, 3, 134, 1, 2155, .int 3) := by decide +kernel
theorem f43_4 : am_tab 43 4 = some (.ifCond .eq 12, 3, 16, 0, 0, .null) := by decide +kernel
theorem f43_7 : am_tab 43 7 = some (.aload_n 0, 1, 0, 0, 0, .null) := by decide +kernel
theorem f43_8 : am_tab 43 8 = some (.getfield 9, 3, 3, 0, 1043, .null) := by decide +kernel
theorem f43_11 : am_tab 43 11 = some (.iload_n 1, 1, 0, 0, 0, .null) := by decide +kernel
theorem f43_12 : am_tab 43 12 = some (.iaload, 1, 0, 0, 0, .null) := by decide +kernel
theorem f43_13 : am_tab 43 13 = some (.goto 4, 3, 17, 0, 0, .null) := by decide +kernel
theorem f43_16 : am_tab 43 16 = some (.iconst 0, 1, 0, 0, 0, .null) := by decide +kernel
theorem f43_17 : am_tab 43 17 = some (.ireturn, 1, 0, 0, 0, .null) := by decide +kernel
theorem f44_0 : am_tab 44 0 = some (.iload_n 1, 1, 0, 0, 0, .null) := by decide +kernel
theorem f44_1 : am_tab 44 1 = some (.invokestatic 57, 3, 134, 1, 2155, .int 3) := by decide +kernel
theorem f44_4 : am_tab 44 4 = some (.ifCond .eq 12, 3, 16, 0, 0, .null) := by decide +kernel
theorem f44_7 : am_tab 44 7 = some (.aload_n 0, 1, 0, 0, 0, .null) := by decide +kernel
theorem f44_8 : am_tab 44 8 = some (.getfield 15, 3, 3, 1, 1044, .null) := by decide +kernel
theorem f44_11 : am_tab 44 11 = some (.iload_n 1, 1, 0, 0, 0, .null) := by decide +kernel
theorem f44_12 : am_tab 44 12 = some (.iaload, 1, 0, 0, 0, .null) := by decide +kernel
theorem f44_13 : am_tab 44 13 = some (.goto 4, 3, 17, 0, 0, .null) := by decide +kernel
theorem f44_16 : am_tab 44 16 = some (.iconst 0, 1, 0, 0, 0, .null) := by decide +kernel
theorem f44_17 : am_tab 44 17 = some (.ireturn, 1, 0, 0, 0, .null) := by decide +kernel
theorem f45_0 : am_tab 45 0 = some (.iload_n 2, 1, 0, 0, 0, .null) := by decide +kernel
theorem f45_1 : am_tab 45 1 = some (.lookupswitch 41 #[(1, 27), (2, 33)], 27, 0, 0, 0, .null) := by decide +kernel
theorem f45_28 : am_tab 45 28 = some (.aload_n 0, 1, 0, 0, 0, .null) := by decide +kernel
theorem f45_29 : am_tab 45 29 = some (.iload_n 1, 1, 0, 0, 0, .null) := by decide +kernel
theorem f45_30 : am_tab 45 30 = some (.invokevirtual 61, 3, 43, 2, 2151, .int 0) := by decide +kernel
theorem f45_33 : am_tab 45 33 = some (.ireturn, 1, 0, 0, 0, .null) := by decide +kernel
theorem f45_34 : am_tab 45 34 = some (.aload_n 0, 1, 0, 0, 0, .null) := by decide +kernel
theorem f45_35 : am_tab 45 35 = some (.iload_n 1, 1, 0, 0, 0, .null) := by decide +kernel
theorem f45_36 : am_tab 45 36 = some (.invokevirtual 65, 3, 44, 2, 2158, .int 0) := by decide +kernel
theorem f45_39 : am_tab 45 39 = some (.iconst 1, 1, 0, 0, 0, .null) := by decide +kernel
theorem f45_40 : am_tab 45 40 = some (.iadd, 1, 0, 0, 0, .null) := by decide +kernel
theorem f45_41 : am_tab 45 41 = some (.ireturn, 1, 0, 0, 0, .null) := by decide +kernel
theorem f45_42 : am_tab 45 42 = some (.iconst 1, 1, 0, 0, 0, .null) := by decide +kernel
theorem f45_43 : am_tab 45 43 = some (.ireturn, 1, 0, 0, 0, .null) := by decide +kernel
theorem f46_0 : am_tab 46 0 = some (.iload_n 1, 1, 0, 0, 0, .null) := by decide +kernel
theorem f46_1 : am_tab 46 1 = some (.ifCond .lt 18, 3, 19, 0, 0, .null) := by decide +kernel
theorem f46_4 : am_tab 46 4 = some (.iload_n 1, 1, 0, 0, 0, .null) := by decide +kernel
theorem f46_5 : am_tab 46 5 = some (.bipush 12, 2, 0, 0, 0, .null) := by decide +kernel
theorem f46_7 : am_tab 46 7 = some (.if_icmp .ge 12, 3, 19, 0, 0, .null) := by decide +kernel
theorem f46_10 : am_tab 46 10 = some (.aload_n 0, 1, 0, 0, 0, .null) := by decide +kernel
theorem f46_11 : am_tab 46 11 = some (.getfield 18, 3, 3, 2, 1045, .null) := by decide +kernel
theorem f46_14 : am_tab 46 14 = some (.iload_n 1, 1, 0, 0, 0, .null) := by decide +kernel
theorem f46_15 : am_tab 46 15 = some (.iaload, 1, 0, 0, 0, .null) := by decide +kernel
theorem f46_16 : am_tab 46 16 = some (.goto 4, 3, 20, 0, 0, .null) := by decide +kernel
theorem f46_19 : am_tab 46 19 = some (.iconst 0, 1, 0, 0, 0, .null) := by decide +kernel
theorem f46_20 : am_tab 46 20 = some (.ireturn, 1, 0, 0, 0, .null) := by decide +kernel
theorem f47_0 : am_tab 47 0 = some (.iload_n 1, 1, 0, 0, 0, .null) := by decide +kernel
theorem f47_1 : am_tab 47 1 = some (.ifCond .lt 18, 3, 19, 0, 0, .null) := by decide +kernel
theorem f47_4 : am_tab 47 4 = some (.iload_n 1, 1, 0, 0, 0, .null) := by decide +kernel
theorem f47_5 : am_tab 47 5 = some (.bipush 12, 2, 0, 0, 0, .null) := by decide +kernel
theorem f47_7 : am_tab 47 7 = some (.if_icmp .ge 12, 3, 19, 0, 0, .null) := by decide +kernel
theorem f47_10 : am_tab 47 10 = some (.aload_n 0, 1, 0, 0, 0, .null) := by decide +kernel
theorem f47_11 : am_tab 47 11 = some (.getfield 21, 3, 3, 3, 1046, .null) := by decide +kernel
theorem f47_14 : am_tab 47 14 = some (.iload_n 1, 1, 0, 0, 0, .null) := by decide +kernel
theorem f47_15 : am_tab 47 15 = some (.iaload, 1, 0, 0, 0, .null) := by decide +kernel
theorem f47_16 : am_tab 47 16 = some (.goto 4, 3, 20, 0, 0, .null) := by decide +kernel
theorem f47_19 : am_tab 47 19 = some (.iconst 0, 1, 0, 0, 0, .null) := by decide +kernel
theorem f47_20 : am_tab 47 20 = some (.ireturn, 1, 0, 0, 0, .null) := by decide +kernel
theorem f48_0 : am_tab 48 0 = some (.aload_n 0, 1, 0, 0, 0, .null) := by decide +kernel
theorem f48_1 : am_tab 48 1 = some (.getfield 34, 3, 3, 4, 1047, .null) := by decide +kernel
theorem f48_4 : am_tab 48 4 = some (.invokestatic 68, 3, 231, 1, 2106, .int 2) := by decide +kernel
theorem f48_7 : am_tab 48 7 = some (.iconst 1, 1, 0, 0, 0, .null) := by decide +kernel
theorem f48_8 : am_tab 48 8 = some (.iadd, 1, 0, 0, 0, .null) := by decide +kernel
theorem f48_9 : am_tab 48 9 = some (.ireturn, 1, 0, 0, 0, .null) := by decide +kernel
theorem f49_0 : am_tab 49 0 = some (.iload_n 1, 1, 0, 0, 0, .null) := by decide +kernel
theorem f49_1 : am_tab 49 1 = some (.ifCond .lt 15, 3, 16, 0, 0, .null) := by decide +kernel
theorem f49_4 : am_tab 49 4 = some (.iload_n 1, 1, 0, 0, 0, .null) := by decide +kernel
theorem f49_5 : am_tab 49 5 = some (.aload_n 0, 1, 0, 0, 0, .null) := by decide +kernel
theorem f49_6 : am_tab 49 6 = some (.invokevirtual 74, 3, 48, 1, 2102, .int 0) := by decide +kernel
theorem f49_9 : am_tab 49 9 = some (.if_icmp .ge 7, 3, 16, 0, 0, .null) := by decide +kernel
theorem f49_12 : am_tab 49 12 = some (.iconst 1, 1, 0, 0, 0, .null) := by decide +kernel
theorem f49_13 : am_tab 49 13 = some (.goto 4, 3, 17, 0, 0, .null) := by decide +kernel
theorem f49_16 : am_tab 49 16 = some (.iconst 0, 1, 0, 0, 0, .null) := by decide +kernel
theorem f49_17 : am_tab 49 17 = some (.ireturn, 1, 0, 0, 0, .null) := by decide +kernel
theorem f50_0 : am_tab 50 0 = some (.iload_n 1, 1, 0, 0, 0, .null) := by decide +kernel
theorem f50_1 : am_tab 50 1 = some (.ifCond .gt 5, 3, 6, 0, 0, .null) := by decide +kernel
theorem f50_4 : am_tab 50 4 = some (.iconst 0, 1, 0, 0, 0, .null) := by decide +kernel
theorem f50_5 : am_tab 50 5 = some (.ireturn, 1, 0, 0, 0, .null) := by decide +kernel
theorem f50_6 : am_tab 50 6 = some (.iconst 0, 1, 0, 0, 0, .null) := by decide +kernel
theorem f50_7 : am_tab 50 7 = some (.istore_n 2, 1, 0, 0, 0, .null) := by decide +kernel
theorem f50_8 : am_tab 50 8 = some (.iconst 1, 1, 0, 0, 0, .null) := by decide +kernel
theorem f50_9 : am_tab 50 9 = some (.istore_n 3, 1, 0, 0, 0, .null) := by decide +kernel
theorem f50_10 : am_tab 50 10 = some (.iload_n 3, 1, 0, 0, 0, .null) := by decide +kernel
theorem f50_11 : am_tab 50 11 = some (.bipush 48, 2, 0, 0, 0, .null) := by decide +kernel
theorem f50_13 : am_tab 50 13 = some (.if_icmp .ge 27, 3, 40, 0, 0, .null) := by decide +kernel
theorem f50_16 : am_tab 50 16 = some (.iload_n 2, 1, 0, 0, 0, .null) := by decide +kernel
theorem f50_17 : am_tab 50 17 = some (.aload_n 0, 1, 0, 0, 0, .null) := by decide +kernel
theorem f50_18 : am_tab 50 18 = some (.getfield 34, 3, 3, 4, 1047, .null) := by decide +kernel
theorem f50_21 : am_tab 50 21 = some (.iload_n 3, 1, 0, 0, 0, .null) := by decide +kernel
theorem f50_22 : am_tab 50 22 = some (.invokestatic 78, 3, 141, 2, 2116, .int 3) := by decide +kernel
theorem f50_25 : am_tab 50 25 = some (.iadd, 1, 0, 0, 0, .null) := by decide +kernel
theorem f50_26 : am_tab 50 26 = some (.istore_n 2, 1, 0, 0, 0, .null) := by decide +kernel
theorem f50_27 : am_tab 50 27 = some (.iload_n 2, 1, 0, 0, 0, .null) := by decide +kernel
theorem f50_28 : am_tab 50 28 = some (.iload_n 1, 1, 0, 0, 0, .null) := by decide +kernel
theorem f50_29 : am_tab 50 29 = some (.if_icmp .ne 5, 3, 34, 0, 0, .null) := by decide +kernel
theorem f50_32 : am_tab 50 32 = some (.iload_n 3, 1, 0, 0, 0, .null) := by decide +kernel
theorem f50_33 : am_tab 50 33 = some (.ireturn, 1, 0, 0, 0, .null) := by decide +kernel
theorem f50_34 : am_tab 50 34 = some (.iinc 3 1, 3, 0, 0, 0, .null) := by decide +kernel
theorem f50_37 : am_tab 50 37 = some (.goto (-27), 3, 10, 0, 0, .null) := by decide +kernel
theorem f50_40 : am_tab 50 40 = some (.bipush 48, 2, 0, 0, 0, .null) := by decide +kernel
theorem f50_42 : am_tab 50 42 = some (.ireturn, 1, 0, 0, 0, .null) := by decide +kernel
theorem f51_0 : am_tab 51 0 = some (.ldc2_w 82, 3, 0, 0, 3227, .long (2)) := by decide +kernel
theorem f51_3 : am_tab 51 3 = some (.iload_n 1, 1, 0, 0, 0, .null) := by decide +kernel
theorem f51_4 : am_tab 51 4 = some (.lshl, 1, 0, 0, 0, .null) := by decide +kernel
theorem f51_5 : am_tab 51 5 = some (.lconst 1, 1, 0, 0, 0, .null) := by decide +kernel
theorem f51_6 : am_tab 51 6 = some (.lsub, 1, 0, 0, 0, .null) := by decide +kernel
theorem f51_7 : am_tab 51 7 = some (.lstore_n 2, 1, 0, 0, 0, .null) := by decide +kernel
theorem f51_8 : am_tab 51 8 = some (.aload_n 0, 1, 0, 0, 0, .null) := by decide +kernel
theorem f51_9 : am_tab 51 9 = some (.getfield 34, 3, 3, 4, 1047, .null) := by decide +kernel
theorem f51_12 : am_tab 51 12 = some (.lload_n 2, 1, 0, 0, 0, .null) := by decide +kernel
theorem f51_13 : am_tab 51 13 = some (.land, 1, 0, 0, 0, .null) := by decide +kernel
theorem f51_14 : am_tab 51 14 = some (.invokestatic 68, 3, 231, 1, 2106, .int 2) := by decide +kernel
theorem f51_17 : am_tab 51 17 = some (.ireturn, 1, 0, 0, 0, .null) := by decide +kernel
theorem f52_0 : am_tab 52 0 = some (.iconst 0, 1, 0, 0, 0, .null) := by decide +kernel
theorem f52_1 : am_tab 52 1 = some (.istore_n 3, 1, 0, 0, 0, .null) := by decide +kernel
theorem f52_2 : am_tab 52 2 = some (.iload_n 2, 1, 0, 0, 0, .null) := by decide +kernel
theorem f52_3 : am_tab 52 3 = some (.bipush 48, 2, 0, 0, 0, .null) := by decide +kernel
theorem f52_5 : am_tab 52 5 = some (.invokestatic 84, 3, 0, 0, 2123, .int 11) := by decide +kernel
theorem f52_8 : am_tab 52 8 = some (.istore 4, 2, 0, 0, 0, .null) := by decide +kernel
theorem f52_10 : am_tab 52 10 = some (.iload_n 1, 1, 0, 0, 0, .null) := by decide +kernel
theorem f52_11 : am_tab 52 11 = some (.iconst 0, 1, 0, 0, 0, .null) := by decide +kernel
theorem f52_12 : am_tab 52 12 = some (.invokestatic 90, 3, 0, 0, 2124, .int 10) := by decide +kernel
theorem f52_15 : am_tab 52 15 = some (.istore 5, 2, 0, 0, 0, .null) := by decide +kernel
theorem f52_17 : am_tab 52 17 = some (.iload 5, 2, 0, 0, 0, .null) := by decide +kernel
theorem f52_19 : am_tab 52 19 = some (.iload 4, 2, 0, 0, 0, .null) := by decide +kernel
theorem f52_21 : am_tab 52 21 = some (.if_icmp .ge 19, 3, 40, 0, 0, .null) := by decide +kernel
theorem f52_24 : am_tab 52 24 = some (.iload_n 3, 1, 0, 0, 0, .null) := by decide +kernel
theorem f52_25 : am_tab 52 25 = some (.aload_n 0, 1, 0, 0, 0, .null) := by decide +kernel
theorem f52_26 : am_tab 52 26 = some (.getfield 9, 3, 3, 0, 1043, .null) := by decide +kernel
theorem f52_29 : am_tab 52 29 = some (.iload 5, 2, 0, 0, 0, .null) := by decide +kernel
theorem f52_31 : am_tab 52 31 = some (.iaload, 1, 0, 0, 0, .null) := by decide +kernel
theorem f52_32 : am_tab 52 32 = some (.iadd, 1, 0, 0, 0, .null) := by decide +kernel
theorem f52_33 : am_tab 52 33 = some (.istore_n 3, 1, 0, 0, 0, .null) := by decide +kernel
theorem f52_34 : am_tab 52 34 = some (.iinc 5 1, 3, 0, 0, 0, .null) := by decide +kernel
theorem f52_37 : am_tab 52 37 = some (.goto (-20), 3, 17, 0, 0, .null) := by decide +kernel
theorem f52_40 : am_tab 52 40 = some (.iload_n 3, 1, 0, 0, 0, .null) := by decide +kernel
theorem f52_41 : am_tab 52 41 = some (.ireturn, 1, 0, 0, 0, .null) := by decide +kernel
theorem f53_0 : am_tab 53 0 = some (.iconst 0, 1, 0, 0, 0, .null) := by decide +kernel
theorem f53_1 : am_tab 53 1 = some (.istore_n 3, 1, 0, 0, 0, .null) := by decide +kernel
theorem f53_2 : am_tab 53 2 = some (.iload_n 2, 1, 0, 0, 0, .null) := by decide +kernel
theorem f53_3 : am_tab 53 3 = some (.bipush 48, 2, 0, 0, 0, .null) := by decide +kernel
theorem f53_5 : am_tab 53 5 = some (.invokestatic 84, 3, 0, 0, 2123, .int 11) := by decide +kernel
theorem f53_8 : am_tab 53 8 = some (.istore 4, 2, 0, 0, 0, .null) := by decide +kernel
theorem f53_10 : am_tab 53 10 = some (.iload_n 1, 1, 0, 0, 0, .null) := by decide +kernel
theorem f53_11 : am_tab 53 11 = some (.iconst 0, 1, 0, 0, 0, .null) := by decide +kernel
theorem f53_12 : am_tab 53 12 = some (.invokestatic 90, 3, 0, 0, 2124, .int 10) := by decide +kernel
theorem f53_15 : am_tab 53 15 = some (.istore 5, 2, 0, 0, 0, .null) := by decide +kernel
theorem f53_17 : am_tab 53 17 = some (.iload 5, 2, 0, 0, 0, .null) := by decide +kernel
theorem f53_19 : am_tab 53 19 = some (.iload 4, 2, 0, 0, 0, .null) := by decide +kernel
theorem f53_21 : am_tab 53 21 = some (.if_icmp .ge 31, 3, 52, 0, 0, .null) := by decide +kernel
theorem f53_24 : am_tab 53 24 = some (.aload_n 0, 1, 0, 0, 0, .null) := by decide +kernel
theorem f53_25 : am_tab 53 25 = some (.getfield 38, 3, 3, 5, 1048, .null) := by decide +kernel
theorem f53_28 : am_tab 53 28 = some (.iload 5, 2, 0, 0, 0, .null) := by decide +kernel
theorem f53_30 : am_tab 53 30 = some (.invokestatic 78, 3, 141, 2, 2116, .int 3) := by decide +kernel
theorem f53_33 : am_tab 53 33 = some (.ifCond .ne 13, 3, 46, 0, 0, .null) := by decide +kernel
theorem f53_36 : am_tab 53 36 = some (.iload_n 3, 1, 0, 0, 0, .null) := by decide +kernel
theorem f53_37 : am_tab 53 37 = some (.aload_n 0, 1, 0, 0, 0, .null) := by decide +kernel
theorem f53_38 : am_tab 53 38 = some (.getfield 9, 3, 3, 0, 1043, .null) := by decide +kernel
theorem f53_41 : am_tab 53 41 = some (.iload 5, 2, 0, 0, 0, .null) := by decide +kernel
theorem f53_43 : am_tab 53 43 = some (.iaload, 1, 0, 0, 0, .null) := by decide +kernel
theorem f53_44 : am_tab 53 44 = some (.iadd, 1, 0, 0, 0, .null) := by decide +kernel
theorem f53_45 : am_tab 53 45 = some (.istore_n 3, 1, 0, 0, 0, .null) := by decide +kernel
theorem f53_46 : am_tab 53 46 = some (.iinc 5 1, 3, 0, 0, 0, .null) := by decide +kernel
theorem f53_49 : am_tab 53 49 = some (.goto (-32), 3, 17, 0, 0, .null) := by decide +kernel
theorem f53_52 : am_tab 53 52 = some (.iload_n 3, 1, 0, 0, 0, .null) := by decide +kernel
theorem f53_53 : am_tab 53 53 = some (.ireturn, 1, 0, 0, 0, .null) := by decide +kernel
theorem f54_0 : am_tab 54 0 = some (.iconst 0, 1, 0, 0, 0, .null) := by decide +kernel
theorem f54_1 : am_tab 54 1 = some (.istore_n 1, 1, 0, 0, 0, .null) := by decide +kernel
theorem f54_2 : am_tab 54 2 = some (.iconst 0, 1, 0, 0, 0, .null) := by decide +kernel
theorem f54_3 : am_tab 54 3 = some (.istore_n 2, 1, 0, 0, 0, .null) := by decide +kernel
theorem f54_4 : am_tab 54 4 = some (.iload_n 2, 1, 0, 0, 0, .null) := by decide +kernel
theorem f54_5 : am_tab 54 5 = some (.bipush 48, 2, 0, 0, 0, .null) := by decide +kernel
theorem f54_7 : am_tab 54 7 = some (.if_icmp .ge 18, 3, 25, 0, 0, .null) := by decide +kernel
theorem f54_10 : am_tab 54 10 = some (.iload_n 1, 1, 0, 0, 0, .null) := by decide +kernel
theorem f54_11 : am_tab 54 11 = some (.aload_n 0, 1, 0, 0, 0, .null) := by decide +kernel
theorem f54_12 : am_tab 54 12 = some (.getfield 15, 3, 3, 1, 1044, .null) := by decide +kernel
theorem f54_15 : am_tab 54 15 = some (.iload_n 2, 1, 0, 0, 0, .null) := by decide +kernel
theorem f54_16 : am_tab 54 16 = some (.iaload, 1, 0, 0, 0, .null) := by decide +kernel
theorem f54_17 : am_tab 54 17 = some (.iadd, 1, 0, 0, 0, .null) := by decide +kernel
theorem f54_18 : am_tab 54 18 = some (.istore_n 1, 1, 0, 0, 0, .null) := by decide +kernel
theorem f54_19 : am_tab 54 19 = some (.iinc 2 1, 3, 0, 0, 0, .null) := by decide +kernel
theorem f54_22 : am_tab 54 22 = some (.goto (-18), 3, 4, 0, 0, .null) := by decide +kernel
theorem f54_25 : am_tab 54 25 = some (.iload_n 1, 1, 0, 0, 0, .null) := by decide +kernel
theorem f54_26 : am_tab 54 26 = some (.ireturn, 1, 0, 0, 0, .null) := by decide +kernel
theorem f55_0 : am_tab 55 0 = some (.iconst 0, 1, 0, 0, 0, .null) := by decide +kernel
theorem f55_1 : am_tab 55 1 = some (.istore_n 1, 1, 0, 0, 0, .null) := by decide +kernel
theorem f55_2 : am_tab 55 2 = some (.iconst 0, 1, 0, 0, 0, .null) := by decide +kernel
theorem f55_3 : am_tab 55 3 = some (.istore_n 2, 1, 0, 0, 0, .null) := by decide +kernel
theorem f55_4 : am_tab 55 4 = some (.iload_n 2, 1, 0, 0, 0, .null) := by decide +kernel
theorem f55_5 : am_tab 55 5 = some (.bipush 12, 2, 0, 0, 0, .null) := by decide +kernel
theorem f55_7 : am_tab 55 7 = some (.if_icmp .ge 18, 3, 25, 0, 0, .null) := by decide +kernel
theorem f55_10 : am_tab 55 10 = some (.iload_n 1, 1, 0, 0, 0, .null) := by decide +kernel
theorem f55_11 : am_tab 55 11 = some (.aload_n 0, 1, 0, 0, 0, .null) := by decide +kernel
theorem f55_12 : am_tab 55 12 = some (.getfield 21, 3, 3, 3, 1046, .null) := by decide +kernel
theorem f55_15 : am_tab 55 15 = some (.iload_n 2, 1, 0, 0, 0, .null) := by decide +kernel
theorem f55_16 : am_tab 55 16 = some (.iaload, 1, 0, 0, 0, .null) := by decide +kernel
theorem f55_17 : am_tab 55 17 = some (.iadd, 1, 0, 0, 0, .null) := by decide +kernel
theorem f55_18 : am_tab 55 18 = some (.istore_n 1, 1, 0, 0, 0, .null) := by decide +kernel
theorem f55_19 : am_tab 55 19 = some (.iinc 2 1, 3, 0, 0, 0, .null) := by decide +kernel
theorem f55_22 : am_tab 55 22 = some (.goto (-18), 3, 4, 0, 0, .null) := by decide +kernel
theorem f55_25 : am_tab 55 25 = some (.iload_n 1, 1, 0, 0, 0, .null) := by decide +kernel
theorem f55_26 : am_tab 55 26 = some (.ireturn, 1, 0, 0, 0, .null) := by decide +kernel
theorem f56_0 : am_tab 56 0 = some (.aload_n 0, 1, 0, 0, 0, .null) := by decide +kernel
theorem f56_1 : am_tab 56 1 = some (.getfield 44, 3, 3, 7, 1054, .null) := by decide +kernel
theorem f56_4 : am_tab 56 4 = some (.ifCond .ne 10, 3, 14, 0, 0, .null) := by decide +kernel
theorem f56_7 : am_tab 56 7 = some (.aload_n 0, 1, 0, 0, 0, .null) := by decide +kernel
theorem f56_8 : am_tab 56 8 = some (.getfield 24, 3, 3, 8, 1056, .null) := by decide +kernel
theorem f56_11 : am_tab 56 11 = some (.ifCond .ne 7, 3, 18, 0, 0, .null) := by decide +kernel
theorem f56_14 : am_tab 56 14 = some (.iconst 1, 1, 0, 0, 0, .null) := by decide +kernel
theorem f56_15 : am_tab 56 15 = some (.goto 4, 3, 19, 0, 0, .null) := by decide +kernel
theorem f56_18 : am_tab 56 18 = some (.iconst 0, 1, 0, 0, 0, .null) := by decide +kernel
theorem f56_19 : am_tab 56 19 = some (.ireturn, 1, 0, 0, 0, .null) := by decide +kernel
theorem f57_0 : am_tab 57 0 = some (.iload_n 1, 1, 0, 0, 0, .null) := by decide +kernel
theorem f57_1 : am_tab 57 1 = some (.invokestatic 93, 3, 135, 1, 3112, .int 3) := by decide +kernel
theorem f57_4 : am_tab 57 4 = some (.ifCond .eq 35, 3, 39, 0, 0, .null) := by decide +kernel
theorem f57_7 : am_tab 57 7 = some (.iload_n 2, 1, 0, 0, 0, .null) := by decide +kernel
theorem f57_8 : am_tab 57 8 = some (.ifCond .eq 27, 3, 35, 0, 0, .null) := by decide +kernel
theorem f57_11 : am_tab 57 11 = some (.aload_n 0, 1, 0, 0, 0, .null) := by decide +kernel
theorem f57_12 : am_tab 57 12 = some (.getfield 34, 3, 3, 4, 1047, .null) := by decide +kernel
theorem f57_15 : am_tab 57 15 = some (.iload_n 1, 1, 0, 0, 0, .null) := by decide +kernel
theorem f57_16 : am_tab 57 16 = some (.invokestatic 78, 3, 141, 2, 2116, .int 3) := by decide +kernel
theorem f57_19 : am_tab 57 19 = some (.iconst 1, 1, 0, 0, 0, .null) := by decide +kernel
theorem f57_20 : am_tab 57 20 = some (.if_icmp .eq 15, 3, 35, 0, 0, .null) := by decide +kernel
theorem f57_23 : am_tab 57 23 = some (.aload_n 0, 1, 0, 0, 0, .null) := by decide +kernel
theorem f57_24 : am_tab 57 24 = some (.getfield 34, 3, 3, 4, 1047, .null) := by decide +kernel
theorem f57_27 : am_tab 57 27 = some (.invokestatic 68, 3, 231, 1, 2106, .int 2) := by decide +kernel
theorem f57_30 : am_tab 57 30 = some (.bipush 11, 2, 0, 0, 0, .null) := by decide +kernel
theorem f57_32 : am_tab 57 32 = some (.if_icmp .ge 7, 3, 39, 0, 0, .null) := by decide +kernel
theorem f57_35 : am_tab 57 35 = some (.iconst 1, 1, 0, 0, 0, .null) := by decide +kernel
theorem f57_36 : am_tab 57 36 = some (.goto 4, 3, 40, 0, 0, .null) := by decide +kernel
theorem f57_39 : am_tab 57 39 = some (.iconst 0, 1, 0, 0, 0, .null) := by decide +kernel
theorem f57_40 : am_tab 57 40 = some (.ireturn, 1, 0, 0, 0, .null) := by decide +kernel
theorem f58_0 : am_tab 58 0 = some (.iload_n 1, 1, 0, 0, 0, .null) := by decide +kernel
theorem f58_1 : am_tab 58 1 = some (.invokestatic 57, 3, 134, 1, 2155, .int 3) := by decide +kernel
theorem f58_4 : am_tab 58 4 = some (.ifCond .eq 10, 3, 14, 0, 0, .null) := by decide +kernel
theorem f58_7 : am_tab 58 7 = some (.aload_n 0, 1, 0, 0, 0, .null) := by decide +kernel
theorem f58_8 : am_tab 58 8 = some (.getfield 9, 3, 3, 0, 1043, .null) := by decide +kernel
theorem f58_11 : am_tab 58 11 = some (.iload_n 1, 1, 0, 0, 0, .null) := by decide +kernel
theorem f58_12 : am_tab 58 12 = some (.iload_n 2, 1, 0, 0, 0, .null) := by decide +kernel
theorem f58_13 : am_tab 58 13 = some (.iastore, 1, 0, 0, 0, .null) := by decide +kernel
theorem f58_14 : am_tab 58 14 = some (.return_, 1, 0, 0, 0, .null) := by decide +kernel
theorem f59_0 : am_tab 59 0 = some (.aload_n 0, 1, 0, 0, 0, .null) := by decide +kernel
theorem f59_1 : am_tab 59 1 = some (.iload_n 2, 1, 0, 0, 0, .null) := by decide +kernel
theorem f59_2 : am_tab 59 2 = some (.ifCond .eq 14, 3, 16, 0, 0, .null) := by decide +kernel
theorem f59_5 : am_tab 59 5 = some (.aload_n 0, 1, 0, 0, 0, .null) := by decide +kernel
theorem f59_6 : am_tab 59 6 = some (.getfield 38, 3, 3, 5, 1048, .null) := by decide +kernel
theorem f59_9 : am_tab 59 9 = some (.lconst 1, 1, 0, 0, 0, .null) := by decide +kernel
theorem f59_10 : am_tab 59 10 = some (.iload_n 1, 1, 0, 0, 0, .null) := by decide +kernel
theorem f59_11 : am_tab 59 11 = some (.lshl, 1, 0, 0, 0, .null) := by decide +kernel
theorem f59_12 : am_tab 59 12 = some (.lor, 1, 0, 0, 0, .null) := by decide +kernel
theorem f59_13 : am_tab 59 13 = some (.goto 15, 3, 28, 0, 0, .null) := by decide +kernel
theorem f59_16 : am_tab 59 16 = some (.aload_n 0, 1, 0, 0, 0, .null) := by decide +kernel
theorem f59_17 : am_tab 59 17 = some (.getfield 38, 3, 3, 5, 1048, .null) := by decide +kernel
theorem f59_20 : am_tab 59 20 = some (.lconst 1, 1, 0, 0, 0, .null) := by decide +kernel
theorem f59_21 : am_tab 59 21 = some (.iload_n 1, 1, 0, 0, 0, .null) := by decide +kernel
theorem f59_22 : am_tab 59 22 = some (.lshl, 1, 0, 0, 0, .null) := by decide +kernel
theorem f59_23 : am_tab 59 23 = some (.ldc2_w 96, 3, 0, 0, 3092, .long (-1)) := by decide +kernel
theorem f59_26 : am_tab 59 26 = some (.lxor, 1, 0, 0, 0, .null) := by decide +kernel
theorem f59_27 : am_tab 59 27 = some (.land, 1, 0, 0, 0, .null) := by decide +kernel
theorem f59_28 : am_tab 59 28 = some (.putfield 38, 3, 3, 5, 1048, .null) := by decide +kernel
theorem f59_31 : am_tab 59 31 = some (.return_, 1, 0, 0, 0, .null) := by decide +kernel
theorem f60_0 : am_tab 60 0 = some (.aload_n 0, 1, 0, 0, 0, .null) := by decide +kernel
theorem f60_1 : am_tab 60 1 = some (.iload_n 1, 1, 0, 0, 0, .null) := by decide +kernel
theorem f60_2 : am_tab 60 2 = some (.invokevirtual 98, 3, 49, 2, 3138, .int 0) := by decide +kernel
theorem f60_5 : am_tab 60 5 = some (.ifCond .eq 16, 3, 21, 0, 0, .null) := by decide +kernel
theorem f60_8 : am_tab 60 8 = some (.iload_n 1, 1, 0, 0, 0, .null) := by decide +kernel
theorem f60_9 : am_tab 60 9 = some (.bipush 12, 2, 0, 0, 0, .null) := by decide +kernel
theorem f60_11 : am_tab 60 11 = some (.if_icmp .ge 10, 3, 21, 0, 0, .null) := by decide +kernel
theorem f60_14 : am_tab 60 14 = some (.aload_n 0, 1, 0, 0, 0, .null) := by decide +kernel
theorem f60_15 : am_tab 60 15 = some (.getfield 18, 3, 3, 2, 1045, .null) := by decide +kernel
theorem f60_18 : am_tab 60 18 = some (.iload_n 1, 1, 0, 0, 0, .null) := by decide +kernel
theorem f60_19 : am_tab 60 19 = some (.iload_n 2, 1, 0, 0, 0, .null) := by decide +kernel
theorem f60_20 : am_tab 60 20 = some (.iastore, 1, 0, 0, 0, .null) := by decide +kernel
theorem f60_21 : am_tab 60 21 = some (.return_, 1, 0, 0, 0, .null) := by decide +kernel
theorem f61_0 : am_tab 61 0 = some (.iload_n 2, 1, 0, 0, 0, .null) := by decide +kernel
theorem f61_1 : am_tab 61 1 = some (.ifCond .eq 14, 3, 15, 0, 0, .null) := by decide +kernel
theorem f61_4 : am_tab 61 4 = some (.aload_n 0, 1, 0, 0, 0, .null) := by decide +kernel
theorem f61_5 : am_tab 61 5 = some (.getfield 34, 3, 3, 4, 1047, .null) := by decide +kernel
theorem f61_8 : am_tab 61 8 = some (.lconst 1, 1, 0, 0, 0, .null) := by decide +kernel
theorem f61_9 : am_tab 61 9 = some (.iload_n 1, 1, 0, 0, 0, .null) := by decide +kernel
theorem f61_10 : am_tab 61 10 = some (.lshl, 1, 0, 0, 0, .null) := by decide +kernel
theorem f61_11 : am_tab 61 11 = some (.lor, 1, 0, 0, 0, .null) := by decide +kernel
theorem f61_12 : am_tab 61 12 = some (.goto 15, 3, 27, 0, 0, .null) := by decide +kernel
theorem f61_15 : am_tab 61 15 = some (.aload_n 0, 1, 0, 0, 0, .null) := by decide +kernel
theorem f61_16 : am_tab 61 16 = some (.getfield 34, 3, 3, 4, 1047, .null) := by decide +kernel
theorem f61_19 : am_tab 61 19 = some (.lconst 1, 1, 0, 0, 0, .null) := by decide +kernel
theorem f61_20 : am_tab 61 20 = some (.iload_n 1, 1, 0, 0, 0, .null) := by decide +kernel
theorem f61_21 : am_tab 61 21 = some (.lshl, 1, 0, 0, 0, .null) := by decide +kernel
theorem f61_22 : am_tab 61 22 = some (.ldc2_w 96, 3, 0, 0, 3092, .long (-1)) := by decide +kernel
theorem f61_25 : am_tab 61 25 = some (.lxor, 1, 0, 0, 0, .null) := by decide +kernel
theorem f61_26 : am_tab 61 26 = some (.land, 1, 0, 0, 0, .null) := by decide +kernel
theorem f61_27 : am_tab 61 27 = some (.lstore_n 3, 1, 0, 0, 0, .null) := by decide +kernel
theorem f61_28 : am_tab 61 28 = some (.lload_n 3, 1, 0, 0, 0, .null) := by decide +kernel
theorem f61_29 : am_tab 61 29 = some (.aload_n 0, 1, 0, 0, 0, .null) := by decide +kernel
theorem f61_30 : am_tab 61 30 = some (.getfield 34, 3, 3, 4, 1047, .null) := by decide +kernel
theorem f61_33 : am_tab 61 33 = some (.lcmp, 1, 0, 0, 0, .null) := by decide +kernel
theorem f61_34 : am_tab 61 34 = some (.ifCond .eq 8, 3, 42, 0, 0, .null) := by decide +kernel
theorem f61_37 : am_tab 61 37 = some (.aload_n 0, 1, 0, 0, 0, .null) := by decide +kernel
theorem f61_38 : am_tab 61 38 = some (.lload_n 3, 1, 0, 0, 0, .null) := by decide +kernel
theorem f61_39 : am_tab 61 39 = some (.invokevirtual 101, 3, 62, 2, 3119, .int 0) := by decide +kernel
theorem f61_42 : am_tab 61 42 = some (.return_, 1, 0, 0, 0, .null) := by decide +kernel
theorem f62_0 : am_tab 62 0 = some (.aload_n 0, 1, 0, 0, 0, .null) := by decide +kernel
theorem f62_1 : am_tab 62 1 = some (.lload_n 1, 1, 0, 0, 0, .null) := by decide +kernel
theorem f62_2 : am_tab 62 2 = some (.putfield 34, 3, 3, 4, 1047, .null) := by decide +kernel
theorem f62_5 : am_tab 62 5 = some (.aload_n 0, 1, 0, 0, 0, .null) := by decide +kernel
theorem f62_6 : am_tab 62 6 = some (.iconst 0, 1, 0, 0, 0, .null) := by decide +kernel
theorem f62_7 : am_tab 62 7 = some (.putfield 44, 3, 3, 7, 1054, .null) := by decide +kernel
theorem f62_10 : am_tab 62 10 = some (.iconst 0, 1, 0, 0, 0, .null) := by decide +kernel
theorem f62_11 : am_tab 62 11 = some (.istore_n 3, 1, 0, 0, 0, .null) := by decide +kernel
theorem f62_12 : am_tab 62 12 = some (.iload_n 3, 1, 0, 0, 0, .null) := by decide +kernel
theorem f62_13 : am_tab 62 13 = some (.bipush 12, 2, 0, 0, 0, .null) := by decide +kernel
theorem f62_15 : am_tab 62 15 = some (.if_icmp .ge 23, 3, 38, 0, 0, .null) := by decide +kernel
theorem f62_18 : am_tab 62 18 = some (.aload_n 0, 1, 0, 0, 0, .null) := by decide +kernel
theorem f62_19 : am_tab 62 19 = some (.getfield 18, 3, 3, 2, 1045, .null) := by decide +kernel
theorem f62_22 : am_tab 62 22 = some (.iload_n 3, 1, 0, 0, 0, .null) := by decide +kernel
theorem f62_23 : am_tab 62 23 = some (.iconst 0, 1, 0, 0, 0, .null) := by decide +kernel
theorem f62_24 : am_tab 62 24 = some (.iastore, 1, 0, 0, 0, .null) := by decide +kernel
theorem f62_25 : am_tab 62 25 = some (.aload_n 0, 1, 0, 0, 0, .null) := by decide +kernel
theorem f62_26 : am_tab 62 26 = some (.getfield 21, 3, 3, 3, 1046, .null) := by decide +kernel
theorem f62_29 : am_tab 62 29 = some (.iload_n 3, 1, 0, 0, 0, .null) := by decide +kernel
theorem f62_30 : am_tab 62 30 = some (.iconst 0, 1, 0, 0, 0, .null) := by decide +kernel
theorem f62_31 : am_tab 62 31 = some (.iastore, 1, 0, 0, 0, .null) := by decide +kernel
theorem f62_32 : am_tab 62 32 = some (.iinc 3 1, 3, 0, 0, 0, .null) := by decide +kernel
theorem f62_35 : am_tab 62 35 = some (.goto (-23), 3, 12, 0, 0, .null) := by decide +kernel
theorem f62_38 : am_tab 62 38 = some (.return_, 1, 0, 0, 0, .null) := by decide +kernel
theorem f63_0 : am_tab 63 0 = some (.aload_n 0, 1, 0, 0, 0, .null) := by decide +kernel
theorem f63_1 : am_tab 63 1 = some (.iconst 1, 1, 0, 0, 0, .null) := by decide +kernel
theorem f63_2 : am_tab 63 2 = some (.putfield 44, 3, 3, 7, 1054, .null) := by decide +kernel
theorem f63_5 : am_tab 63 5 = some (.aload_n 0, 1, 0, 0, 0, .null) := by decide +kernel
theorem f63_6 : am_tab 63 6 = some (.invokevirtual 74, 3, 48, 1, 2102, .int 0) := by decide +kernel
theorem f63_9 : am_tab 63 9 = some (.istore_n 1, 1, 0, 0, 0, .null) := by decide +kernel
theorem f63_10 : am_tab 63 10 = some (.iconst 0, 1, 0, 0, 0, .null) := by decide +kernel
theorem f63_11 : am_tab 63 11 = some (.istore_n 2, 1, 0, 0, 0, .null) := by decide +kernel
theorem f63_12 : am_tab 63 12 = some (.iload_n 2, 1, 0, 0, 0, .null) := by decide +kernel
theorem f63_13 : am_tab 63 13 = some (.iload_n 1, 1, 0, 0, 0, .null) := by decide +kernel
theorem f63_14 : am_tab 63 14 = some (.if_icmp .ge 44, 3, 58, 0, 0, .null) := by decide +kernel
theorem f63_17 : am_tab 63 17 = some (.iload_n 2, 1, 0, 0, 0, .null) := by decide +kernel
theorem f63_18 : am_tab 63 18 = some (.bipush 12, 2, 0, 0, 0, .null) := by decide +kernel
theorem f63_20 : am_tab 63 20 = some (.if_icmp .ge 38, 3, 58, 0, 0, .null) := by decide +kernel
theorem f63_23 : am_tab 63 23 = some (.aload_n 0, 1, 0, 0, 0, .null) := by decide +kernel
theorem f63_24 : am_tab 63 24 = some (.getfield 21, 3, 3, 3, 1046, .null) := by decide +kernel
theorem f63_27 : am_tab 63 27 = some (.iload_n 2, 1, 0, 0, 0, .null) := by decide +kernel
theorem f63_28 : am_tab 63 28 = some (.aload_n 0, 1, 0, 0, 0, .null) := by decide +kernel
theorem f63_29 : am_tab 63 29 = some (.aload_n 0, 1, 0, 0, 0, .null) := by decide +kernel
theorem f63_30 : am_tab 63 30 = some (.iload_n 2, 1, 0, 0, 0, .null) := by decide +kernel
theorem f63_31 : am_tab 63 31 = some (.invokevirtual 105, 3, 50, 2, 2112, .int 0) := by decide +kernel
theorem f63_34 : am_tab 63 34 = some (.aload_n 0, 1, 0, 0, 0, .null) := by decide +kernel
theorem f63_35 : am_tab 63 35 = some (.iload_n 2, 1, 0, 0, 0, .null) := by decide +kernel
theorem f63_36 : am_tab 63 36 = some (.iconst 1, 1, 0, 0, 0, .null) := by decide +kernel
theorem f63_37 : am_tab 63 37 = some (.iadd, 1, 0, 0, 0, .null) := by decide +kernel
theorem f63_38 : am_tab 63 38 = some (.invokevirtual 105, 3, 50, 2, 2112, .int 0) := by decide +kernel
theorem f63_41 : am_tab 63 41 = some (.invokevirtual 108, 3, 53, 3, 2119, .int 0) := by decide +kernel
theorem f63_44 : am_tab 63 44 = some (.aload_n 0, 1, 0, 0, 0, .null) := by decide +kernel
theorem f63_45 : am_tab 63 45 = some (.getfield 18, 3, 3, 2, 1045, .null) := by decide +kernel
theorem f63_48 : am_tab 63 48 = some (.iload_n 2, 1, 0, 0, 0, .null) := by decide +kernel
theorem f63_49 : am_tab 63 49 = some (.iaload, 1, 0, 0, 0, .null) := by decide +kernel
theorem f63_50 : am_tab 63 50 = some (.iadd, 1, 0, 0, 0, .null) := by decide +kernel
theorem f63_51 : am_tab 63 51 = some (.iastore, 1, 0, 0, 0, .null) := by decide +kernel
theorem f63_52 : am_tab 63 52 = some (.iinc 2 1, 3, 0, 0, 0, .null) := by decide +kernel
theorem f63_55 : am_tab 63 55 = some (.goto (-43), 3, 12, 0, 0, .null) := by decide +kernel
theorem f63_58 : am_tab 63 58 = some (.return_, 1, 0, 0, 0, .null) := by decide +kernel
theorem f64_0 : am_tab 64 0 = some (.aload_n 0, 1, 0, 0, 0, .null) := by decide +kernel
theorem f64_1 : am_tab 64 1 = some (.dup, 1, 0, 0, 0, .null) := by decide +kernel
theorem f64_2 : am_tab 64 2 = some (.getfield 48, 3, 3, 9, 1060, .null) := by decide +kernel
theorem f64_5 : am_tab 64 5 = some (.iload_n 1, 1, 0, 0, 0, .null) := by decide +kernel
theorem f64_6 : am_tab 64 6 = some (.iadd, 1, 0, 0, 0, .null) := by decide +kernel
theorem f64_7 : am_tab 64 7 = some (.putfield 48, 3, 3, 9, 1060, .null) := by decide +kernel
theorem f64_10 : am_tab 64 10 = some (.aload_n 0, 1, 0, 0, 0, .null) := by decide +kernel
theorem f64_11 : am_tab 64 11 = some (.lload_n 2, 1, 0, 0, 0, .null) := by decide +kernel
theorem f64_12 : am_tab 64 12 = some (.putfield 41, 3, 3, 6, 1051, .null) := by decide +kernel
theorem f64_15 : am_tab 64 15 = some (.aload_n 0, 1, 0, 0, 0, .null) := by decide +kernel
theorem f64_16 : am_tab 64 16 = some (.lload_n 2, 1, 0, 0, 0, .null) := by decide +kernel
theorem f64_17 : am_tab 64 17 = some (.aload_n 0, 1, 0, 0, 0, .null) := by decide +kernel
theorem f64_18 : am_tab 64 18 = some (.getfield 38, 3, 3, 5, 1048, .null) := by decide +kernel
theorem f64_21 : am_tab 64 21 = some (.ldc2_w 96, 3, 0, 0, 3092, .long (-1)) := by decide +kernel
theorem f64_24 : am_tab 64 24 = some (.lxor, 1, 0, 0, 0, .null) := by decide +kernel
theorem f64_25 : am_tab 64 25 = some (.land, 1, 0, 0, 0, .null) := by decide +kernel
theorem f64_26 : am_tab 64 26 = some (.invokestatic 68, 3, 231, 1, 2106, .int 2) := by decide +kernel
theorem f64_29 : am_tab 64 29 = some (.putfield 51, 3, 3, 10, 1063, .null) := by decide +kernel
theorem f64_32 : am_tab 64 32 = some (.aload_n 0, 1, 0, 0, 0, .null) := by decide +kernel
theorem f64_33 : am_tab 64 33 = some (.aload_n 0, 1, 0, 0, 0, .null) := by decide +kernel
theorem f64_34 : am_tab 64 34 = some (.getfield 38, 3, 3, 5, 1048, .null) := by decide +kernel
theorem f64_37 : am_tab 64 37 = some (.lload_n 2, 1, 0, 0, 0, .null) := by decide +kernel
theorem f64_38 : am_tab 64 38 = some (.ldc2_w 96, 3, 0, 0, 3092, .long (-1)) := by decide +kernel
theorem f64_41 : am_tab 64 41 = some (.lxor, 1, 0, 0, 0, .null) := by decide +kernel
theorem f64_42 : am_tab 64 42 = some (.land, 1, 0, 0, 0, .null) := by decide +kernel
theorem f64_43 : am_tab 64 43 = some (.invokestatic 68, 3, 231, 1, 2106, .int 2) := by decide +kernel
theorem f64_46 : am_tab 64 46 = some (.putfield 54, 3, 3, 11, 1065, .null) := by decide +kernel
theorem f64_49 : am_tab 64 49 = some (.iconst 0, 1, 0, 0, 0, .null) := by decide +kernel
theorem f64_50 : am_tab 64 50 = some (.istore 4, 2, 0, 0, 0, .null) := by decide +kernel
theorem f64_52 : am_tab 64 52 = some (.iload 4, 2, 0, 0, 0, .null) := by decide +kernel
theorem f64_54 : am_tab 64 54 = some (.bipush 48, 2, 0, 0, 0, .null) := by decide +kernel
theorem f64_56 : am_tab 64 56 = some (.if_icmp .ge 35, 3, 91, 0, 0, .null) := by decide +kernel
theorem f64_59 : am_tab 64 59 = some (.aload_n 0, 1, 0, 0, 0, .null) := by decide +kernel
theorem f64_60 : am_tab 64 60 = some (.getfield 15, 3, 3, 1, 1044, .null) := by decide +kernel
theorem f64_63 : am_tab 64 63 = some (.iload 4, 2, 0, 0, 0, .null) := by decide +kernel
theorem f64_65 : am_tab 64 65 = some (.aload_n 0, 1, 0, 0, 0, .null) := by decide +kernel
theorem f64_66 : am_tab 64 66 = some (.getfield 15, 3, 3, 1, 1044, .null) := by decide +kernel
theorem f64_69 : am_tab 64 69 = some (.iload 4, 2, 0, 0, 0, .null) := by decide +kernel
theorem f64_71 : am_tab 64 71 = some (.iaload, 1, 0, 0, 0, .null) := by decide +kernel
theorem f64_72 : am_tab 64 72 = some (.lload_n 2, 1, 0, 0, 0, .null) := by decide +kernel
theorem f64_73 : am_tab 64 73 = some (.iload 4, 2, 0, 0, 0, .null) := by decide +kernel
theorem f64_75 : am_tab 64 75 = some (.invokestatic 78, 3, 141, 2, 2116, .int 3) := by decide +kernel
theorem f64_78 : am_tab 64 78 = some (.iadd, 1, 0, 0, 0, .null) := by decide +kernel
theorem f64_79 : am_tab 64 79 = some (.bipush 99, 2, 0, 0, 0, .null) := by decide +kernel
theorem f64_81 : am_tab 64 81 = some (.invokestatic 84, 3, 0, 0, 2123, .int 11) := by decide +kernel
theorem f64_84 : am_tab 64 84 = some (.iastore, 1, 0, 0, 0, .null) := by decide +kernel
theorem f64_85 : am_tab 64 85 = some (.iinc 4 1, 3, 0, 0, 0, .null) := by decide +kernel
theorem f64_88 : am_tab 64 88 = some (.goto (-36), 3, 52, 0, 0, .null) := by decide +kernel
theorem f64_91 : am_tab 64 91 = some (.return_, 1, 0, 0, 0, .null) := by decide +kernel
theorem f65_0 : am_tab 65 0 = some (.iconst 0, 1, 0, 0, 0, .null) := by decide +kernel
theorem f65_1 : am_tab 65 1 = some (.istore_n 2, 1, 0, 0, 0, .null) := by decide +kernel
theorem f65_2 : am_tab 65 2 = some (.sipush 4096, 3, 0, 0, 0, .null) := by decide +kernel
theorem f65_5 : am_tab 65 5 = some (.istore_n 3, 1, 0, 0, 0, .null) := by decide +kernel
theorem f65_6 : am_tab 65 6 = some (.iload_n 3, 1, 0, 0, 0, .null) := by decide +kernel
theorem f65_7 : am_tab 65 7 = some (.ifCond .le 25, 3, 32, 0, 0, .null) := by decide +kernel
theorem f65_10 : am_tab 65 10 = some (.aload_n 0, 1, 0, 0, 0, .null) := by decide +kernel
theorem f65_11 : am_tab 65 11 = some (.iload_n 2, 1, 0, 0, 0, .null) := by decide +kernel
theorem f65_12 : am_tab 65 12 = some (.iload_n 3, 1, 0, 0, 0, .null) := by decide +kernel
theorem f65_13 : am_tab 65 13 = some (.iadd, 1, 0, 0, 0, .null) := by decide +kernel
theorem f65_14 : am_tab 65 14 = some (.iload_n 1, 1, 0, 0, 0, .null) := by decide +kernel
theorem f65_15 : am_tab 65 15 = some (.invokevirtual 111, 3, 66, 3, 3154, .int 0) := by decide +kernel
theorem f65_18 : am_tab 65 18 = some (.ifCond .ne 7, 3, 25, 0, 0, .null) := by decide +kernel
theorem f65_21 : am_tab 65 21 = some (.iload_n 2, 1, 0, 0, 0, .null) := by decide +kernel
theorem f65_22 : am_tab 65 22 = some (.iload_n 3, 1, 0, 0, 0, .null) := by decide +kernel
theorem f65_23 : am_tab 65 23 = some (.iadd, 1, 0, 0, 0, .null) := by decide +kernel
theorem f65_24 : am_tab 65 24 = some (.istore_n 2, 1, 0, 0, 0, .null) := by decide +kernel
theorem f65_25 : am_tab 65 25 = some (.iload_n 3, 1, 0, 0, 0, .null) := by decide +kernel
theorem f65_26 : am_tab 65 26 = some (.iconst 1, 1, 0, 0, 0, .null) := by decide +kernel
theorem f65_27 : am_tab 65 27 = some (.ishr, 1, 0, 0, 0, .null) := by decide +kernel
theorem f65_28 : am_tab 65 28 = some (.istore_n 3, 1, 0, 0, 0, .null) := by decide +kernel
theorem f65_29 : am_tab 65 29 = some (.goto (-23), 3, 6, 0, 0, .null) := by decide +kernel
theorem f65_32 : am_tab 65 32 = some (.iload_n 2, 1, 0, 0, 0, .null) := by decide +kernel
theorem f65_33 : am_tab 65 33 = some (.iconst 1, 1, 0, 0, 0, .null) := by decide +kernel
theorem f65_34 : am_tab 65 34 = some (.iadd, 1, 0, 0, 0, .null) := by decide +kernel
theorem f65_35 : am_tab 65 35 = some (.ireturn, 1, 0, 0, 0, .null) := by decide +kernel
theorem f66_0 : am_tab 66 0 = some (.iconst 0, 1, 0, 0, 0, .null) := by decide +kernel
theorem f66_1 : am_tab 66 1 = some (.istore_n 3, 1, 0, 0, 0, .null) := by decide +kernel
theorem f66_2 : am_tab 66 2 = some (.iload_n 3, 1, 0, 0, 0, .null) := by decide +kernel
theorem f66_3 : am_tab 66 3 = some (.bipush 48, 2, 0, 0, 0, .null) := by decide +kernel
theorem f66_5 : am_tab 66 5 = some (.if_icmp .ge 21, 3, 26, 0, 0, .null) := by decide +kernel
theorem f66_8 : am_tab 66 8 = some (.aload_n 0, 1, 0, 0, 0, .null) := by decide +kernel
theorem f66_9 : am_tab 66 9 = some (.getfield 9, 3, 3, 0, 1043, .null) := by decide +kernel
theorem f66_12 : am_tab 66 12 = some (.iload_n 3, 1, 0, 0, 0, .null) := by decide +kernel
theorem f66_13 : am_tab 66 13 = some (.iaload, 1, 0, 0, 0, .null) := by decide +kernel
theorem f66_14 : am_tab 66 14 = some (.iload_n 1, 1, 0, 0, 0, .null) := by decide +kernel
theorem f66_15 : am_tab 66 15 = some (.if_icmp .le 5, 3, 20, 0, 0, .null) := by decide +kernel
theorem f66_18 : am_tab 66 18 = some (.iconst 0, 1, 0, 0, 0, .null) := by decide +kernel
theorem f66_19 : am_tab 66 19 = some (.ireturn, 1, 0, 0, 0, .null) := by decide +kernel
theorem f66_20 : am_tab 66 20 = some (.iinc 3 1, 3, 0, 0, 0, .null) := by decide +kernel
theorem f66_23 : am_tab 66 23 = some (.goto (-21), 3, 2, 0, 0, .null) := by decide +kernel
theorem f66_26 : am_tab 66 26 = some (.aload_n 0, 1, 0, 0, 0, .null) := by decide +kernel
theorem f66_27 : am_tab 66 27 = some (.iload_n 1, 1, 0, 0, 0, .null) := by decide +kernel
theorem f66_28 : am_tab 66 28 = some (.invokevirtual 115, 3, 67, 2, 3158, .int 0) := by decide +kernel
theorem f66_31 : am_tab 66 31 = some (.invokestatic 68, 3, 231, 1, 2106, .int 2) := by decide +kernel
theorem f66_34 : am_tab 66 34 = some (.iload_n 2, 1, 0, 0, 0, .null) := by decide +kernel
theorem f66_35 : am_tab 66 35 = some (.if_icmp .gt 7, 3, 42, 0, 0, .null) := by decide +kernel
theorem f66_38 : am_tab 66 38 = some (.iconst 1, 1, 0, 0, 0, .null) := by decide +kernel
theorem f66_39 : am_tab 66 39 = some (.goto 4, 3, 43, 0, 0, .null) := by decide +kernel
theorem f66_42 : am_tab 66 42 = some (.iconst 0, 1, 0, 0, 0, .null) := by decide +kernel
theorem f66_43 : am_tab 66 43 = some (.ireturn, 1, 0, 0, 0, .null) := by decide +kernel
theorem f67_0 : am_tab 67 0 = some (.lconst 0, 1, 0, 0, 0, .null) := by decide +kernel
theorem f67_1 : am_tab 67 1 = some (.lstore_n 2, 1, 0, 0, 0, .null) := by decide +kernel
theorem f67_2 : am_tab 67 2 = some (.iconst 0, 1, 0, 0, 0, .null) := by decide +kernel
theorem f67_3 : am_tab 67 3 = some (.istore 4, 2, 0, 0, 0, .null) := by decide +kernel
theorem f67_5 : am_tab 67 5 = some (.iconst 0, 1, 0, 0, 0, .null) := by decide +kernel
theorem f67_6 : am_tab 67 6 = some (.istore 5, 2, 0, 0, 0, .null) := by decide +kernel
theorem f67_8 : am_tab 67 8 = some (.iload 5, 2, 0, 0, 0, .null) := by decide +kernel
theorem f67_10 : am_tab 67 10 = some (.bipush 48, 2, 0, 0, 0, .null) := by decide +kernel
theorem f67_12 : am_tab 67 12 = some (.if_icmp .ge 50, 3, 62, 0, 0, .null) := by decide +kernel
theorem f67_15 : am_tab 67 15 = some (.iload 5, 2, 0, 0, 0, .null) := by decide +kernel
theorem f67_17 : am_tab 67 17 = some (.ifCond .le 27, 3, 44, 0, 0, .null) := by decide +kernel
theorem f67_20 : am_tab 67 20 = some (.iload 4, 2, 0, 0, 0, .null) := by decide +kernel
theorem f67_22 : am_tab 67 22 = some (.aload_n 0, 1, 0, 0, 0, .null) := by decide +kernel
theorem f67_23 : am_tab 67 23 = some (.getfield 9, 3, 3, 0, 1043, .null) := by decide +kernel
theorem f67_26 : am_tab 67 26 = some (.iload 5, 2, 0, 0, 0, .null) := by decide +kernel
theorem f67_28 : am_tab 67 28 = some (.iaload, 1, 0, 0, 0, .null) := by decide +kernel
theorem f67_29 : am_tab 67 29 = some (.iadd, 1, 0, 0, 0, .null) := by decide +kernel
theorem f67_30 : am_tab 67 30 = some (.iload_n 1, 1, 0, 0, 0, .null) := by decide +kernel
theorem f67_31 : am_tab 67 31 = some (.if_icmp .le 13, 3, 44, 0, 0, .null) := by decide +kernel
theorem f67_34 : am_tab 67 34 = some (.lload_n 2, 1, 0, 0, 0, .null) := by decide +kernel
theorem f67_35 : am_tab 67 35 = some (.lconst 1, 1, 0, 0, 0, .null) := by decide +kernel
theorem f67_36 : am_tab 67 36 = some (.iload 5, 2, 0, 0, 0, .null) := by decide +kernel
theorem f67_38 : am_tab 67 38 = some (.lshl, 1, 0, 0, 0, .null) := by decide +kernel
theorem f67_39 : am_tab 67 39 = some (.lor, 1, 0, 0, 0, .null) := by decide +kernel
theorem f67_40 : am_tab 67 40 = some (.lstore_n 2, 1, 0, 0, 0, .null) := by decide +kernel
theorem f67_41 : am_tab 67 41 = some (.iconst 0, 1, 0, 0, 0, .null) := by decide +kernel
theorem f67_42 : am_tab 67 42 = some (.istore 4, 2, 0, 0, 0, .null) := by decide +kernel
theorem f67_44 : am_tab 67 44 = some (.iload 4, 2, 0, 0, 0, .null) := by decide +kernel
theorem f67_46 : am_tab 67 46 = some (.aload_n 0, 1, 0, 0, 0, .null) := by decide +kernel
theorem f67_47 : am_tab 67 47 = some (.getfield 9, 3, 3, 0, 1043, .null) := by decide +kernel
theorem f67_50 : am_tab 67 50 = some (.iload 5, 2, 0, 0, 0, .null) := by decide +kernel
theorem f67_52 : am_tab 67 52 = some (.iaload, 1, 0, 0, 0, .null) := by decide +kernel
theorem f67_53 : am_tab 67 53 = some (.iadd, 1, 0, 0, 0, .null) := by decide +kernel
theorem f67_54 : am_tab 67 54 = some (.istore 4, 2, 0, 0, 0, .null) := by decide +kernel
theorem f67_56 : am_tab 67 56 = some (.iinc 5 1, 3, 0, 0, 0, .null) := by decide +kernel
theorem f67_59 : am_tab 67 59 = some (.goto (-51), 3, 8, 0, 0, .null) := by decide +kernel
theorem f67_62 : am_tab 67 62 = some (.lload_n 2, 1, 0, 0, 0, .null) := by decide +kernel
theorem f67_63 : am_tab 67 63 = some (.lreturn, 1, 0, 0, 0, .null) := by decide +kernel
theorem f68_0 : am_tab 68 0 = some (.aload_n 0, 1, 0, 0, 0, .null) := by decide +kernel
theorem f68_1 : am_tab 68 1 = some (.aload_n 0, 1, 0, 0, 0, .null) := by decide +kernel
theorem f68_2 : am_tab 68 2 = some (.iload_n 1, 1, 0, 0, 0, .null) := by decide +kernel
theorem f68_3 : am_tab 68 3 = some (.invokevirtual 119, 3, 65, 2, 3150, .int 0) := by decide +kernel
theorem f68_6 : am_tab 68 6 = some (.invokevirtual 115, 3, 67, 2, 3158, .int 0) := by decide +kernel
theorem f68_9 : am_tab 68 9 = some (.lreturn, 1, 0, 0, 0, .null) := by decide +kernel
theorem f69_0 : am_tab 69 0 = some (.aload_n 0, 1, 0, 0, 0, .null) := by decide +kernel
theorem f69_1 : am_tab 69 1 = some (.invokespecial 3, 3, 0, 0, 1147, .int 6) := by decide +kernel
theorem f69_4 : am_tab 69 4 = some (.aload_n 0, 1, 0, 0, 0, .null) := by decide +kernel
theorem f69_5 : am_tab 69 5 = some (.new 9, 3, 0, 1, 1148, .null) := by decide +kernel
theorem f69_8 : am_tab 69 8 = some (.dup, 1, 0, 0, 0, .null) := by decide +kernel
theorem f69_9 : am_tab 69 9 = some (.invokespecial 11, 3, 23, 1, 1149, .int 5) := by decide +kernel
theorem f69_12 : am_tab 69 12 = some (.putfield 12, 3, 4, 0, 1150, .null) := by decide +kernel
theorem f69_15 : am_tab 69 15 = some (.aload_n 0, 1, 0, 0, 0, .null) := by decide +kernel
theorem f69_16 : am_tab 69 16 = some (.sipush 2401, 3, 0, 0, 0, .null) := by decide +kernel
theorem f69_19 : am_tab 69 19 = some (.newarray .int, 2, 0, 0, 1093, .null) := by decide +kernel
theorem f69_21 : am_tab 69 21 = some (.putfield 18, 3, 4, 1, 1151, .null) := by decide +kernel
theorem f69_24 : am_tab 69 24 = some (.return_, 1, 0, 0, 0, .null) := by decide +kernel
theorem f70_0 : am_tab 70 0 = some (.aload_n 1, 1, 0, 0, 0, .null) := by decide +kernel
theorem f70_1 : am_tab 70 1 = some (.iload_n 2, 1, 0, 0, 0, .null) := by decide +kernel
theorem f70_2 : am_tab 70 2 = some (.invokevirtual 22, 3, 50, 2, 4106, .int 0) := by decide +kernel
theorem f70_5 : am_tab 70 5 = some (.istore 4, 2, 0, 0, 0, .null) := by decide +kernel
theorem f70_7 : am_tab 70 7 = some (.aload_n 1, 1, 0, 0, 0, .null) := by decide +kernel
theorem f70_8 : am_tab 70 8 = some (.iload_n 2, 1, 0, 0, 0, .null) := by decide +kernel
theorem f70_9 : am_tab 70 9 = some (.iconst 1, 1, 0, 0, 0, .null) := by decide +kernel
theorem f70_10 : am_tab 70 10 = some (.iadd, 1, 0, 0, 0, .null) := by decide +kernel
theorem f70_11 : am_tab 70 11 = some (.invokevirtual 22, 3, 50, 2, 4106, .int 0) := by decide +kernel
theorem f70_14 : am_tab 70 14 = some (.istore 5, 2, 0, 0, 0, .null) := by decide +kernel
theorem f70_16 : am_tab 70 16 = some (.aload_n 0, 1, 0, 0, 0, .null) := by decide +kernel
theorem f70_17 : am_tab 70 17 = some (.iconst 0, 1, 0, 0, 0, .null) := by decide +kernel
theorem f70_18 : am_tab 70 18 = some (.putfield 28, 3, 4, 2, 1152, .null) := by decide +kernel
theorem f70_21 : am_tab 70 21 = some (.aload_n 0, 1, 0, 0, 0, .null) := by decide +kernel
theorem f70_22 : am_tab 70 22 = some (.iconst 0, 1, 0, 0, 0, .null) := by decide +kernel
theorem f70_23 : am_tab 70 23 = some (.putfield 32, 3, 4, 3, 1154, .null) := by decide +kernel
theorem f70_26 : am_tab 70 26 = some (.aload_n 0, 1, 0, 0, 0, .null) := by decide +kernel
theorem f70_27 : am_tab 70 27 = some (.getfield 12, 3, 4, 0, 1150, .null) := by decide +kernel
theorem f70_30 : am_tab 70 30 = some (.aload_n 1, 1, 0, 0, 0, .null) := by decide +kernel
theorem f70_31 : am_tab 70 31 = some (.iload_n 3, 1, 0, 0, 0, .null) := by decide +kernel
theorem f70_32 : am_tab 70 32 = some (.invokevirtual 35, 3, 24, 3, 4107, .int 0) := by decide +kernel
theorem f70_35 : am_tab 70 35 = some (.iload 4, 2, 0, 0, 0, .null) := by decide +kernel
theorem f70_37 : am_tab 70 37 = some (.istore 6, 2, 0, 0, 0, .null) := by decide +kernel
theorem f70_39 : am_tab 70 39 = some (.iload 6, 2, 0, 0, 0, .null) := by decide +kernel
theorem f70_41 : am_tab 70 41 = some (.iload 5, 2, 0, 0, 0, .null) := by decide +kernel
theorem f70_43 : am_tab 70 43 = some (.if_icmp .ge 54, 3, 97, 0, 0, .null) := by decide +kernel
theorem f70_46 : am_tab 70 46 = some (.aload_n 0, 1, 0, 0, 0, .null) := by decide +kernel
theorem f70_47 : am_tab 70 47 = some (.iload 6, 2, 0, 0, 0, .null) := by decide +kernel
theorem f70_49 : am_tab 70 49 = some (.iload 4, 2, 0, 0, 0, .null) := by decide +kernel
theorem f70_51 : am_tab 70 51 = some (.iload 5, 2, 0, 0, 0, .null) := by decide +kernel
theorem f70_53 : am_tab 70 53 = some (.invokevirtual 39, 3, 71, 4, 4108, .int 0) := by decide +kernel
theorem f70_56 : am_tab 70 56 = some (.istore 7, 2, 0, 0, 0, .null) := by decide +kernel
theorem f70_58 : am_tab 70 58 = some (.aload_n 0, 1, 0, 0, 0, .null) := by decide +kernel
theorem f70_59 : am_tab 70 59 = some (.aload_n 0, 1, 0, 0, 0, .null) := by decide +kernel
theorem f70_60 : am_tab 70 60 = some (.getfield 28, 3, 4, 2, 1152, .null) := by decide +kernel
theorem f70_63 : am_tab 70 63 = some (.iload 7, 2, 0, 0, 0, .null) := by decide +kernel
theorem f70_65 : am_tab 70 65 = some (.invokestatic 43, 3, 0, 0, 4113, .int 10) := by decide +kernel
theorem f70_68 : am_tab 70 68 = some (.putfield 28, 3, 4, 2, 1152, .null) := by decide +kernel
theorem f70_71 : am_tab 70 71 = some (.aload_n 0, 1, 0, 0, 0, .null) := by decide +kernel
theorem f70_72 : am_tab 70 72 = some (.dup, 1, 0, 0, 0, .null) := by decide +kernel
theorem f70_73 : am_tab 70 73 = some (.getfield 32, 3, 4, 3, 1154, .null) := by decide +kernel
theorem f70_76 : am_tab 70 76 = some (.iload 7, 2, 0, 0, 0, .null) := by decide +kernel
theorem f70_78 : am_tab 70 78 = some (.aload_n 1, 1, 0, 0, 0, .null) := by decide +kernel
theorem f70_79 : am_tab 70 79 = some (.iload 6, 2, 0, 0, 0, .null) := by decide +kernel
theorem f70_81 : am_tab 70 81 = some (.invokevirtual 49, 3, 44, 2, 4114, .int 0) := by decide +kernel
theorem f70_84 : am_tab 70 84 = some (.iconst 1, 1, 0, 0, 0, .null) := by decide +kernel
theorem f70_85 : am_tab 70 85 = some (.iadd, 1, 0, 0, 0, .null) := by decide +kernel
theorem f70_86 : am_tab 70 86 = some (.imul, 1, 0, 0, 0, .null) := by decide +kernel
theorem f70_87 : am_tab 70 87 = some (.iadd, 1, 0, 0, 0, .null) := by decide +kernel
theorem f70_88 : am_tab 70 88 = some (.putfield 32, 3, 4, 3, 1154, .null) := by decide +kernel
theorem f70_91 : am_tab 70 91 = some (.iinc 6 1, 3, 0, 0, 0, .null) := by decide +kernel
theorem f70_94 : am_tab 70 94 = some (.goto (-55), 3, 39, 0, 0, .null) := by decide +kernel
theorem f70_97 : am_tab 70 97 = some (.return_, 1, 0, 0, 0, .null) := by decide +kernel
theorem f71_0 : am_tab 71 0 = some (.iload_n 2, 1, 0, 0, 0, .null) := by decide +kernel
theorem f71_1 : am_tab 71 1 = some (.istore 4, 2, 0, 0, 0, .null) := by decide +kernel
theorem f71_3 : am_tab 71 3 = some (.iload_n 3, 1, 0, 0, 0, .null) := by decide +kernel
theorem f71_4 : am_tab 71 4 = some (.istore 5, 2, 0, 0, 0, .null) := by decide +kernel
theorem f71_6 : am_tab 71 6 = some (.iconst 0, 1, 0, 0, 0, .null) := by decide +kernel
theorem f71_7 : am_tab 71 7 = some (.istore 6, 2, 0, 0, 0, .null) := by decide +kernel
theorem f71_9 : am_tab 71 9 = some (.iload 6, 2, 0, 0, 0, .null) := by decide +kernel
theorem f71_11 : am_tab 71 11 = some (.bipush 48, 2, 0, 0, 0, .null) := by decide +kernel
theorem f71_13 : am_tab 71 13 = some (.if_icmp .ge 51, 3, 64, 0, 0, .null) := by decide +kernel
theorem f71_16 : am_tab 71 16 = some (.iload 5, 2, 0, 0, 0, .null) := by decide +kernel
theorem f71_18 : am_tab 71 18 = some (.iload 4, 2, 0, 0, 0, .null) := by decide +kernel
theorem f71_20 : am_tab 71 20 = some (.isub, 1, 0, 0, 0, .null) := by decide +kernel
theorem f71_21 : am_tab 71 21 = some (.iconst 2, 1, 0, 0, 0, .null) := by decide +kernel
theorem f71_22 : am_tab 71 22 = some (.if_icmp .ge 6, 3, 28, 0, 0, .null) := by decide +kernel
theorem f71_25 : am_tab 71 25 = some (.iload 6, 2, 0, 0, 0, .null) := by decide +kernel
theorem f71_27 : am_tab 71 27 = some (.ireturn, 1, 0, 0, 0, .null) := by decide +kernel
theorem f71_28 : am_tab 71 28 = some (.aload_n 0, 1, 0, 0, 0, .null) := by decide +kernel
theorem f71_29 : am_tab 71 29 = some (.getfield 12, 3, 4, 0, 1150, .null) := by decide +kernel
theorem f71_32 : am_tab 71 32 = some (.iload 4, 2, 0, 0, 0, .null) := by decide +kernel
theorem f71_34 : am_tab 71 34 = some (.iload 5, 2, 0, 0, 0, .null) := by decide +kernel
theorem f71_36 : am_tab 71 36 = some (.invokevirtual 52, 3, 26, 3, 4112, .int 0) := by decide +kernel
theorem f71_39 : am_tab 71 39 = some (.istore 7, 2, 0, 0, 0, .null) := by decide +kernel
theorem f71_41 : am_tab 71 41 = some (.iload_n 1, 1, 0, 0, 0, .null) := by decide +kernel
theorem f71_42 : am_tab 71 42 = some (.iload 7, 2, 0, 0, 0, .null) := by decide +kernel
theorem f71_44 : am_tab 71 44 = some (.if_icmp .ge 10, 3, 54, 0, 0, .null) := by decide +kernel
theorem f71_47 : am_tab 71 47 = some (.iload 7, 2, 0, 0, 0, .null) := by decide +kernel
theorem f71_49 : am_tab 71 49 = some (.istore 5, 2, 0, 0, 0, .null) := by decide +kernel
theorem f71_51 : am_tab 71 51 = some (.goto 7, 3, 58, 0, 0, .null) := by decide +kernel
theorem f71_54 : am_tab 71 54 = some (.iload 7, 2, 0, 0, 0, .null) := by decide +kernel
theorem f71_56 : am_tab 71 56 = some (.istore 4, 2, 0, 0, 0, .null) := by decide +kernel
theorem f71_58 : am_tab 71 58 = some (.iinc 6 1, 3, 0, 0, 0, .null) := by decide +kernel
theorem f71_61 : am_tab 71 61 = some (.goto (-52), 3, 9, 0, 0, .null) := by decide +kernel
theorem f71_64 : am_tab 71 64 = some (.bipush 48, 2, 0, 0, 0, .null) := by decide +kernel
theorem f71_66 : am_tab 71 66 = some (.ireturn, 1, 0, 0, 0, .null) := by decide +kernel
theorem f72_0 : am_tab 72 0 = some (.aload_n 1, 1, 0, 0, 0, .null) := by decide +kernel
theorem f72_1 : am_tab 72 1 = some (.iload_n 2, 1, 0, 0, 0, .null) := by decide +kernel
theorem f72_2 : am_tab 72 2 = some (.invokevirtual 22, 3, 50, 2, 4106, .int 0) := by decide +kernel
theorem f72_5 : am_tab 72 5 = some (.istore_n 3, 1, 0, 0, 0, .null) := by decide +kernel
theorem f72_6 : am_tab 72 6 = some (.aload_n 1, 1, 0, 0, 0, .null) := by decide +kernel
theorem f72_7 : am_tab 72 7 = some (.iload_n 2, 1, 0, 0, 0, .null) := by decide +kernel
theorem f72_8 : am_tab 72 8 = some (.iconst 1, 1, 0, 0, 0, .null) := by decide +kernel
theorem f72_9 : am_tab 72 9 = some (.iadd, 1, 0, 0, 0, .null) := by decide +kernel
theorem f72_10 : am_tab 72 10 = some (.invokevirtual 22, 3, 50, 2, 4106, .int 0) := by decide +kernel
theorem f72_13 : am_tab 72 13 = some (.istore 4, 2, 0, 0, 0, .null) := by decide +kernel
theorem f72_15 : am_tab 72 15 = some (.aload_n 0, 1, 0, 0, 0, .null) := by decide +kernel
theorem f72_16 : am_tab 72 16 = some (.getfield 12, 3, 4, 0, 1150, .null) := by decide +kernel
theorem f72_19 : am_tab 72 19 = some (.aload_n 1, 1, 0, 0, 0, .null) := by decide +kernel
theorem f72_20 : am_tab 72 20 = some (.iconst 2, 1, 0, 0, 0, .null) := by decide +kernel
theorem f72_21 : am_tab 72 21 = some (.invokevirtual 35, 3, 24, 3, 4107, .int 0) := by decide +kernel
theorem f72_24 : am_tab 72 24 = some (.iconst 2, 1, 0, 0, 0, .null) := by decide +kernel
theorem f72_25 : am_tab 72 25 = some (.istore 5, 2, 0, 0, 0, .null) := by decide +kernel
theorem f72_27 : am_tab 72 27 = some (.iload 5, 2, 0, 0, 0, .null) := by decide +kernel
theorem f72_29 : am_tab 72 29 = some (.iload 4, 2, 0, 0, 0, .null) := by decide +kernel
theorem f72_31 : am_tab 72 31 = some (.iload_n 3, 1, 0, 0, 0, .null) := by decide +kernel
theorem f72_32 : am_tab 72 32 = some (.isub, 1, 0, 0, 0, .null) := by decide +kernel
theorem f72_33 : am_tab 72 33 = some (.if_icmp .gt 50, 3, 83, 0, 0, .null) := by decide +kernel
theorem f72_36 : am_tab 72 36 = some (.iload_n 3, 1, 0, 0, 0, .null) := by decide +kernel
theorem f72_37 : am_tab 72 37 = some (.istore 6, 2, 0, 0, 0, .null) := by decide +kernel
theorem f72_39 : am_tab 72 39 = some (.iload 6, 2, 0, 0, 0, .null) := by decide +kernel
theorem f72_41 : am_tab 72 41 = some (.iload 5, 2, 0, 0, 0, .null) := by decide +kernel
theorem f72_43 : am_tab 72 43 = some (.iadd, 1, 0, 0, 0, .null) := by decide +kernel
theorem f72_44 : am_tab 72 44 = some (.iload 4, 2, 0, 0, 0, .null) := by decide +kernel
theorem f72_46 : am_tab 72 46 = some (.if_icmp .gt 31, 3, 77, 0, 0, .null) := by decide +kernel
theorem f72_49 : am_tab 72 49 = some (.aload_n 0, 1, 0, 0, 0, .null) := by decide +kernel
theorem f72_50 : am_tab 72 50 = some (.iload 6, 2, 0, 0, 0, .null) := by decide +kernel
theorem f72_52 : am_tab 72 52 = some (.iload 6, 2, 0, 0, 0, .null) := by decide +kernel
theorem f72_54 : am_tab 72 54 = some (.iload 5, 2, 0, 0, 0, .null) := by decide +kernel
theorem f72_56 : am_tab 72 56 = some (.iadd, 1, 0, 0, 0, .null) := by decide +kernel
theorem f72_57 : am_tab 72 57 = some (.aload_n 0, 1, 0, 0, 0, .null) := by decide +kernel
theorem f72_58 : am_tab 72 58 = some (.iload 6, 2, 0, 0, 0, .null) := by decide +kernel
theorem f72_60 : am_tab 72 60 = some (.iload 6, 2, 0, 0, 0, .null) := by decide +kernel
theorem f72_62 : am_tab 72 62 = some (.iload 5, 2, 0, 0, 0, .null) := by decide +kernel
theorem f72_64 : am_tab 72 64 = some (.iadd, 1, 0, 0, 0, .null) := by decide +kernel
theorem f72_65 : am_tab 72 65 = some (.invokevirtual 55, 3, 73, 3, 4126, .int 0) := by decide +kernel
theorem f72_68 : am_tab 72 68 = some (.invokevirtual 58, 3, 76, 4, 4139, .int 0) := by decide +kernel
theorem f72_71 : am_tab 72 71 = some (.iinc 6 1, 3, 0, 0, 0, .null) := by decide +kernel
theorem f72_74 : am_tab 72 74 = some (.goto (-35), 3, 39, 0, 0, .null) := by decide +kernel
theorem f72_77 : am_tab 72 77 = some (.iinc 5 1, 3, 0, 0, 0, .null) := by decide +kernel
theorem f72_80 : am_tab 72 80 = some (.goto (-53), 3, 27, 0, 0, .null) := by decide +kernel
theorem f72_83 : am_tab 72 83 = some (.aload_n 0, 1, 0, 0, 0, .null) := by decide +kernel
theorem f72_84 : am_tab 72 84 = some (.iload_n 3, 1, 0, 0, 0, .null) := by decide +kernel
theorem f72_85 : am_tab 72 85 = some (.iload 4, 2, 0, 0, 0, .null) := by decide +kernel
theorem f72_87 : am_tab 72 87 = some (.invokevirtual 62, 3, 75, 3, 4130, .int 0) := by decide +kernel
theorem f72_90 : am_tab 72 90 = some (.ireturn, 1, 0, 0, 0, .null) := by decide +kernel
theorem f73_0 : am_tab 73 0 = some (.aload_n 0, 1, 0, 0, 0, .null) := by decide +kernel
theorem f73_1 : am_tab 73 1 = some (.iload_n 1, 1, 0, 0, 0, .null) := by decide +kernel
theorem f73_2 : am_tab 73 2 = some (.iconst 1, 1, 0, 0, 0, .null) := by decide +kernel
theorem f73_3 : am_tab 73 3 = some (.iadd, 1, 0, 0, 0, .null) := by decide +kernel
theorem f73_4 : am_tab 73 4 = some (.iload_n 2, 1, 0, 0, 0, .null) := by decide +kernel
theorem f73_5 : am_tab 73 5 = some (.invokevirtual 62, 3, 75, 3, 4130, .int 0) := by decide +kernel
theorem f73_8 : am_tab 73 8 = some (.istore_n 3, 1, 0, 0, 0, .null) := by decide +kernel
theorem f73_9 : am_tab 73 9 = some (.iload_n 1, 1, 0, 0, 0, .null) := by decide +kernel
theorem f73_10 : am_tab 73 10 = some (.iconst 2, 1, 0, 0, 0, .null) := by decide +kernel
theorem f73_11 : am_tab 73 11 = some (.iadd, 1, 0, 0, 0, .null) := by decide +kernel
theorem f73_12 : am_tab 73 12 = some (.istore 4, 2, 0, 0, 0, .null) := by decide +kernel
theorem f73_14 : am_tab 73 14 = some (.iload 4, 2, 0, 0, 0, .null) := by decide +kernel
theorem f73_16 : am_tab 73 16 = some (.iload_n 2, 1, 0, 0, 0, .null) := by decide +kernel
theorem f73_17 : am_tab 73 17 = some (.if_icmp .ge 29, 3, 46, 0, 0, .null) := by decide +kernel
theorem f73_20 : am_tab 73 20 = some (.iload_n 3, 1, 0, 0, 0, .null) := by decide +kernel
theorem f73_21 : am_tab 73 21 = some (.aload_n 0, 1, 0, 0, 0, .null) := by decide +kernel
theorem f73_22 : am_tab 73 22 = some (.iload_n 1, 1, 0, 0, 0, .null) := by decide +kernel
theorem f73_23 : am_tab 73 23 = some (.iload 4, 2, 0, 0, 0, .null) := by decide +kernel
theorem f73_25 : am_tab 73 25 = some (.invokevirtual 62, 3, 75, 3, 4130, .int 0) := by decide +kernel
theorem f73_28 : am_tab 73 28 = some (.aload_n 0, 1, 0, 0, 0, .null) := by decide +kernel
theorem f73_29 : am_tab 73 29 = some (.iload 4, 2, 0, 0, 0, .null) := by decide +kernel
theorem f73_31 : am_tab 73 31 = some (.iload_n 2, 1, 0, 0, 0, .null) := by decide +kernel
theorem f73_32 : am_tab 73 32 = some (.invokevirtual 62, 3, 75, 3, 4130, .int 0) := by decide +kernel
theorem f73_35 : am_tab 73 35 = some (.iadd, 1, 0, 0, 0, .null) := by decide +kernel
theorem f73_36 : am_tab 73 36 = some (.invokestatic 65, 3, 0, 0, 4137, .int 11) := by decide +kernel
theorem f73_39 : am_tab 73 39 = some (.istore_n 3, 1, 0, 0, 0, .null) := by decide +kernel
theorem f73_40 : am_tab 73 40 = some (.iinc 4 1, 3, 0, 0, 0, .null) := by decide +kernel
theorem f73_43 : am_tab 73 43 = some (.goto (-29), 3, 14, 0, 0, .null) := by decide +kernel
theorem f73_46 : am_tab 73 46 = some (.iload_n 3, 1, 0, 0, 0, .null) := by decide +kernel
theorem f73_47 : am_tab 73 47 = some (.aload_n 0, 1, 0, 0, 0, .null) := by decide +kernel
theorem f73_48 : am_tab 73 48 = some (.getfield 12, 3, 4, 0, 1150, .null) := by decide +kernel
theorem f73_51 : am_tab 73 51 = some (.iload_n 1, 1, 0, 0, 0, .null) := by decide +kernel
theorem f73_52 : am_tab 73 52 = some (.iload_n 2, 1, 0, 0, 0, .null) := by decide +kernel
theorem f73_53 : am_tab 73 53 = some (.invokevirtual 68, 3, 25, 3, 4138, .int 0) := by decide +kernel
theorem f73_56 : am_tab 73 56 = some (.iadd, 1, 0, 0, 0, .null) := by decide +kernel
theorem f73_57 : am_tab 73 57 = some (.ireturn, 1, 0, 0, 0, .null) := by decide +kernel
theorem f74_0 : am_tab 74 0 = some (.iload_n 0, 1, 0, 0, 0, .null) := by decide +kernel
theorem f74_1 : am_tab 74 1 = some (.ifCond .lt 18, 3, 19, 0, 0, .null) := by decide +kernel
theorem f74_4 : am_tab 74 4 = some (.iload_n 0, 1, 0, 0, 0, .null) := by decide +kernel
theorem f74_5 : am_tab 74 5 = some (.iload_n 1, 1, 0, 0, 0, .null) := by decide +kernel
theorem f74_6 : am_tab 74 6 = some (.if_icmp .ge 13, 3, 19, 0, 0, .null) := by decide +kernel
theorem f74_9 : am_tab 74 9 = some (.iload_n 1, 1, 0, 0, 0, .null) := by decide +kernel
theorem f74_10 : am_tab 74 10 = some (.bipush 48, 2, 0, 0, 0, .null) := by decide +kernel
theorem f74_12 : am_tab 74 12 = some (.if_icmp .gt 7, 3, 19, 0, 0, .null) := by decide +kernel
theorem f74_15 : am_tab 74 15 = some (.iconst 1, 1, 0, 0, 0, .null) := by decide +kernel
theorem f74_16 : am_tab 74 16 = some (.goto 4, 3, 20, 0, 0, .null) := by decide +kernel
theorem f74_19 : am_tab 74 19 = some (.iconst 0, 1, 0, 0, 0, .null) := by decide +kernel
theorem f74_20 : am_tab 74 20 = some (.ireturn, 1, 0, 0, 0, .null) := by decide +kernel
theorem f75_0 : am_tab 75 0 = some (.iload_n 1, 1, 0, 0, 0, .null) := by decide +kernel
theorem f75_1 : am_tab 75 1 = some (.iload_n 2, 1, 0, 0, 0, .null) := by decide +kernel
theorem f75_2 : am_tab 75 2 = some (.invokestatic 71, 3, 74, 2, 4134, .int 2) := by decide +kernel
theorem f75_5 : am_tab 75 5 = some (.ifCond .eq 17, 3, 22, 0, 0, .null) := by decide +kernel
theorem f75_8 : am_tab 75 8 = some (.aload_n 0, 1, 0, 0, 0, .null) := by decide +kernel
theorem f75_9 : am_tab 75 9 = some (.getfield 18, 3, 4, 1, 1151, .null) := by decide +kernel
theorem f75_12 : am_tab 75 12 = some (.bipush 49, 2, 0, 0, 0, .null) := by decide +kernel
theorem f75_14 : am_tab 75 14 = some (.iload_n 1, 1, 0, 0, 0, .null) := by decide +kernel
theorem f75_15 : am_tab 75 15 = some (.imul, 1, 0, 0, 0, .null) := by decide +kernel
theorem f75_16 : am_tab 75 16 = some (.iload_n 2, 1, 0, 0, 0, .null) := by decide +kernel
theorem f75_17 : am_tab 75 17 = some (.iadd, 1, 0, 0, 0, .null) := by decide +kernel
theorem f75_18 : am_tab 75 18 = some (.iaload, 1, 0, 0, 0, .null) := by decide +kernel
theorem f75_19 : am_tab 75 19 = some (.goto 4, 3, 23, 0, 0, .null) := by decide +kernel
theorem f75_22 : am_tab 75 22 = some (.iconst 0, 1, 0, 0, 0, .null) := by decide +kernel
theorem f75_23 : am_tab 75 23 = some (.ireturn, 1, 0, 0, 0, .null) := by decide +kernel
theorem f76_0 : am_tab 76 0 = some (.iload_n 1, 1, 0, 0, 0, .null) := by decide +kernel
theorem f76_1 : am_tab 76 1 = some (.iload_n 2, 1, 0, 0, 0, .null) := by decide +kernel
theorem f76_2 : am_tab 76 2 = some (.invokestatic 71, 3, 74, 2, 4134, .int 2) := by decide +kernel
theorem f76_5 : am_tab 76 5 = some (.ifCond .eq 15, 3, 20, 0, 0, .null) := by decide +kernel
theorem f76_8 : am_tab 76 8 = some (.aload_n 0, 1, 0, 0, 0, .null) := by decide +kernel
theorem f76_9 : am_tab 76 9 = some (.getfield 18, 3, 4, 1, 1151, .null) := by decide +kernel
theorem f76_12 : am_tab 76 12 = some (.bipush 49, 2, 0, 0, 0, .null) := by decide +kernel
theorem f76_14 : am_tab 76 14 = some (.iload_n 1, 1, 0, 0, 0, .null) := by decide +kernel
theorem f76_15 : am_tab 76 15 = some (.imul, 1, 0, 0, 0, .null) := by decide +kernel
theorem f76_16 : am_tab 76 16 = some (.iload_n 2, 1, 0, 0, 0, .null) := by decide +kernel
theorem f76_17 : am_tab 76 17 = some (.iadd, 1, 0, 0, 0, .null) := by decide +kernel
theorem f76_18 : am_tab 76 18 = some (.iload_n 3, 1, 0, 0, 0, .null) := by decide +kernel
theorem f76_19 : am_tab 76 19 = some (.iastore, 1, 0, 0, 0, .null) := by decide +kernel
theorem f76_20 : am_tab 76 20 = some (.return_, 1, 0, 0, 0, .null) := by decide +kernel
theorem f77_0 : am_tab 77 0 = some (.lconst 1, 1, 0, 0, 0, .null) := by decide +kernel
theorem f77_1 : am_tab 77 1 = some (.lstore_n 1, 1, 0, 0, 0, .null) := by decide +kernel
theorem f77_2 : am_tab 77 2 = some (.iconst 0, 1, 0, 0, 0, .null) := by decide +kernel
theorem f77_3 : am_tab 77 3 = some (.istore_n 3, 1, 0, 0, 0, .null) := by decide +kernel
theorem f77_4 : am_tab 77 4 = some (.iload_n 3, 1, 0, 0, 0, .null) := by decide +kernel
theorem f77_5 : am_tab 77 5 = some (.iload_n 0, 1, 0, 0, 0, .null) := by decide +kernel
theorem f77_6 : am_tab 77 6 = some (.if_icmp .ge 15, 3, 21, 0, 0, .null) := by decide +kernel
theorem f77_9 : am_tab 77 9 = some (.lload_n 1, 1, 0, 0, 0, .null) := by decide +kernel
theorem f77_10 : am_tab 77 10 = some (.ldc2_w 9, 3, 0, 0, 4184, .long (100000)) := by decide +kernel
theorem f77_13 : am_tab 77 13 = some (.lmul, 1, 0, 0, 0, .null) := by decide +kernel
theorem f77_14 : am_tab 77 14 = some (.lstore_n 1, 1, 0, 0, 0, .null) := by decide +kernel
theorem f77_15 : am_tab 77 15 = some (.iinc 3 1, 3, 0, 0, 0, .null) := by decide +kernel
theorem f77_18 : am_tab 77 18 = some (.goto (-14), 3, 4, 0, 0, .null) := by decide +kernel
theorem f77_21 : am_tab 77 21 = some (.lload_n 1, 1, 0, 0, 0, .null) := by decide +kernel
theorem f77_22 : am_tab 77 22 = some (.lreturn, 1, 0, 0, 0, .null) := by decide +kernel
theorem f78_0 : am_tab 78 0 = some (.lload_n 0, 1, 0, 0, 0, .null) := by decide +kernel
theorem f78_1 : am_tab 78 1 = some (.lstore_n 3, 1, 0, 0, 0, .null) := by decide +kernel
theorem f78_2 : am_tab 78 2 = some (.iconst 0, 1, 0, 0, 0, .null) := by decide +kernel
theorem f78_3 : am_tab 78 3 = some (.istore 5, 2, 0, 0, 0, .null) := by decide +kernel
theorem f78_5 : am_tab 78 5 = some (.iload 5, 2, 0, 0, 0, .null) := by decide +kernel
theorem f78_7 : am_tab 78 7 = some (.iload_n 2, 1, 0, 0, 0, .null) := by decide +kernel
theorem f78_8 : am_tab 78 8 = some (.if_icmp .ge 15, 3, 23, 0, 0, .null) := by decide +kernel
theorem f78_11 : am_tab 78 11 = some (.lload_n 3, 1, 0, 0, 0, .null) := by decide +kernel
theorem f78_12 : am_tab 78 12 = some (.ldc2_w 9, 3, 0, 0, 4184, .long (100000)) := by decide +kernel
theorem f78_15 : am_tab 78 15 = some (.ldiv, 1, 0, 0, 0, .null) := by decide +kernel
theorem f78_16 : am_tab 78 16 = some (.lstore_n 3, 1, 0, 0, 0, .null) := by decide +kernel
theorem f78_17 : am_tab 78 17 = some (.iinc 5 1, 3, 0, 0, 0, .null) := by decide +kernel
theorem f78_20 : am_tab 78 20 = some (.goto (-15), 3, 5, 0, 0, .null) := by decide +kernel
theorem f78_23 : am_tab 78 23 = some (.lload_n 3, 1, 0, 0, 0, .null) := by decide +kernel
theorem f78_24 : am_tab 78 24 = some (.ldc2_w 9, 3, 0, 0, 4184, .long (100000)) := by decide +kernel
theorem f78_27 : am_tab 78 27 = some (.lrem, 1, 0, 0, 0, .null) := by decide +kernel
theorem f78_28 : am_tab 78 28 = some (.l2i, 1, 0, 0, 0, .null) := by decide +kernel
theorem f78_29 : am_tab 78 29 = some (.ireturn, 1, 0, 0, 0, .null) := by decide +kernel
theorem f79_0 : am_tab 79 0 = some (.aload_n 0, 1, 0, 0, 0, .null) := by decide +kernel
theorem f79_1 : am_tab 79 1 = some (.getfield 11, 3, 1, 0, 1130, .int 1) := by decide +kernel
theorem f79_4 : am_tab 79 4 = some (.astore_n 2, 1, 0, 0, 0, .null) := by decide +kernel
theorem f79_5 : am_tab 79 5 = some (.iload_n 1, 1, 0, 0, 0, .null) := by decide +kernel
theorem f79_6 : am_tab 79 6 = some (.bipush 100, 2, 0, 0, 0, .null) := by decide +kernel
theorem f79_8 : am_tab 79 8 = some (.idiv, 1, 0, 0, 0, .null) := by decide +kernel
theorem f79_9 : am_tab 79 9 = some (.bipush 100, 2, 0, 0, 0, .null) := by decide +kernel
theorem f79_11 : am_tab 79 11 = some (.irem, 1, 0, 0, 0, .null) := by decide +kernel
theorem f79_12 : am_tab 79 12 = some (.istore_n 3, 1, 0, 0, 0, .null) := by decide +kernel
theorem f79_13 : am_tab 79 13 = some (.iload_n 1, 1, 0, 0, 0, .null) := by decide +kernel
theorem f79_14 : am_tab 79 14 = some (.bipush 10, 2, 0, 0, 0, .null) := by decide +kernel
theorem f79_16 : am_tab 79 16 = some (.idiv, 1, 0, 0, 0, .null) := by decide +kernel
theorem f79_17 : am_tab 79 17 = some (.bipush 10, 2, 0, 0, 0, .null) := by decide +kernel
theorem f79_19 : am_tab 79 19 = some (.irem, 1, 0, 0, 0, .null) := by decide +kernel
theorem f79_20 : am_tab 79 20 = some (.istore 4, 2, 0, 0, 0, .null) := by decide +kernel
theorem f79_22 : am_tab 79 22 = some (.iload_n 1, 1, 0, 0, 0, .null) := by decide +kernel
theorem f79_23 : am_tab 79 23 = some (.bipush 10, 2, 0, 0, 0, .null) := by decide +kernel
theorem f79_25 : am_tab 79 25 = some (.irem, 1, 0, 0, 0, .null) := by decide +kernel
theorem f79_26 : am_tab 79 26 = some (.istore 5, 2, 0, 0, 0, .null) := by decide +kernel
theorem f79_28 : am_tab 79 28 = some (.iload_n 1, 1, 0, 0, 0, .null) := by decide +kernel
theorem f79_29 : am_tab 79 29 = some (.bipush 100, 2, 0, 0, 0, .null) := by decide +kernel
theorem f79_31 : am_tab 79 31 = some (.irem, 1, 0, 0, 0, .null) := by decide +kernel
theorem f79_32 : am_tab 79 32 = some (.istore 6, 2, 0, 0, 0, .null) := by decide +kernel
theorem f79_34 : am_tab 79 34 = some (.iload_n 1, 1, 0, 0, 0, .null) := by decide +kernel
theorem f79_35 : am_tab 79 35 = some (.sipush 10000, 3, 0, 0, 0, .null) := by decide +kernel
theorem f79_38 : am_tab 79 38 = some (.idiv, 1, 0, 0, 0, .null) := by decide +kernel
theorem f79_39 : am_tab 79 39 = some (.tableswitch 280 1 9 #[49, 80, 111, 134, 156, 180, 198, 229, 261], 49, 0, 0, 0, .null) := by decide +kernel
theorem f79_88 : am_tab 79 88 = some (.iload 6, 2, 0, 0, 0, .null) := by decide +kernel
theorem f79_90 : am_tab 79 90 = some (.iconst 2, 1, 0, 0, 0, .null) := by decide +kernel
theorem f79_91 : am_tab 79 91 = some (.if_icmp .ge 26, 3, 117, 0, 0, .null) := by decide +kernel
theorem f79_94 : am_tab 79 94 = some (.aload_n 0, 1, 0, 0, 0, .null) := by decide +kernel
theorem f79_95 : am_tab 79 95 = some (.iload_n 3, 1, 0, 0, 0, .null) := by decide +kernel
theorem f79_96 : am_tab 79 96 = some (.iload 5, 2, 0, 0, 0, .null) := by decide +kernel
theorem f79_98 : am_tab 79 98 = some (.iconst 1, 1, 0, 0, 0, .null) := by decide +kernel
theorem f79_99 : am_tab 79 99 = some (.if_icmp .ne 7, 3, 106, 0, 0, .null) := by decide +kernel
theorem f79_102 : am_tab 79 102 = some (.iconst 1, 1, 0, 0, 0, .null) := by decide +kernel
theorem f79_103 : am_tab 79 103 = some (.goto 4, 3, 107, 0, 0, .null) := by decide +kernel
theorem f79_106 : am_tab 79 106 = some (.iconst 0, 1, 0, 0, 0, .null) := by decide +kernel
theorem f79_107 : am_tab 79 107 = some (.invokevirtual 17, 3, 30, 3, 4192, .int 0) := by decide +kernel
theorem f79_110 : am_tab 79 110 = some (.ifCond .eq 7, 3, 117, 0, 0, .null) := by decide +kernel
theorem f79_113 : am_tab 79 113 = some (.iconst 1, 1, 0, 0, 0, .null) := by decide +kernel
theorem f79_114 : am_tab 79 114 = some (.goto 4, 3, 118, 0, 0, .null) := by decide +kernel
theorem f79_117 : am_tab 79 117 = some (.iconst 0, 1, 0, 0, 0, .null) := by decide +kernel
theorem f79_118 : am_tab 79 118 = some (.ireturn, 1, 0, 0, 0, .null) := by decide +kernel
theorem f79_119 : am_tab 79 119 = some (.iload 6, 2, 0, 0, 0, .null) := by decide +kernel
theorem f79_121 : am_tab 79 121 = some (.iconst 2, 1, 0, 0, 0, .null) := by decide +kernel
theorem f79_122 : am_tab 79 122 = some (.if_icmp .ge 26, 3, 148, 0, 0, .null) := by decide +kernel
theorem f79_125 : am_tab 79 125 = some (.aload_n 0, 1, 0, 0, 0, .null) := by decide +kernel
theorem f79_126 : am_tab 79 126 = some (.iload_n 3, 1, 0, 0, 0, .null) := by decide +kernel
theorem f79_127 : am_tab 79 127 = some (.iload 5, 2, 0, 0, 0, .null) := by decide +kernel
theorem f79_129 : am_tab 79 129 = some (.iconst 1, 1, 0, 0, 0, .null) := by decide +kernel
theorem f79_130 : am_tab 79 130 = some (.if_icmp .ne 7, 3, 137, 0, 0, .null) := by decide +kernel
theorem f79_133 : am_tab 79 133 = some (.iconst 1, 1, 0, 0, 0, .null) := by decide +kernel
theorem f79_134 : am_tab 79 134 = some (.goto 4, 3, 138, 0, 0, .null) := by decide +kernel
theorem f79_137 : am_tab 79 137 = some (.iconst 0, 1, 0, 0, 0, .null) := by decide +kernel
theorem f79_138 : am_tab 79 138 = some (.invokevirtual 21, 3, 31, 3, 4193, .int 0) := by decide +kernel
theorem f79_141 : am_tab 79 141 = some (.ifCond .eq 7, 3, 148, 0, 0, .null) := by decide +kernel
theorem f79_144 : am_tab 79 144 = some (.iconst 1, 1, 0, 0, 0, .null) := by decide +kernel
theorem f79_145 : am_tab 79 145 = some (.goto 4, 3, 149, 0, 0, .null) := by decide +kernel
theorem f79_148 : am_tab 79 148 = some (.iconst 0, 1, 0, 0, 0, .null) := by decide +kernel
theorem f79_149 : am_tab 79 149 = some (.ireturn, 1, 0, 0, 0, .null) := by decide +kernel
theorem f79_150 : am_tab 79 150 = some (.iload 4, 2, 0, 0, 0, .null) := by decide +kernel
theorem f79_152 : am_tab 79 152 = some (.ifCond .ne 19, 3, 171, 0, 0, .null) := by decide +kernel
theorem f79_155 : am_tab 79 155 = some (.aload_n 0, 1, 0, 0, 0, .null) := by decide +kernel
theorem f79_156 : am_tab 79 156 = some (.iload_n 3, 1, 0, 0, 0, .null) := by decide +kernel
theorem f79_157 : am_tab 79 157 = some (.iload 5, 2, 0, 0, 0, .null) := by decide +kernel
theorem f79_159 : am_tab 79 159 = some (.iconst 2, 1, 0, 0, 0, .null) := by decide +kernel
theorem f79_160 : am_tab 79 160 = some (.isub, 1, 0, 0, 0, .null) := by decide +kernel
theorem f79_161 : am_tab 79 161 = some (.invokevirtual 24, 3, 33, 3, 4194, .int 0) := by decide +kernel
theorem f79_164 : am_tab 79 164 = some (.ifCond .eq 7, 3, 171, 0, 0, .null) := by decide +kernel
theorem f79_167 : am_tab 79 167 = some (.iconst 1, 1, 0, 0, 0, .null) := by decide +kernel
theorem f79_168 : am_tab 79 168 = some (.goto 4, 3, 172, 0, 0, .null) := by decide +kernel
theorem f79_171 : am_tab 79 171 = some (.iconst 0, 1, 0, 0, 0, .null) := by decide +kernel
theorem f79_172 : am_tab 79 172 = some (.ireturn, 1, 0, 0, 0, .null) := by decide +kernel
theorem f79_173 : am_tab 79 173 = some (.iload_n 3, 1, 0, 0, 0, .null) := by decide +kernel
theorem f79_174 : am_tab 79 174 = some (.ifCond .ne 19, 3, 193, 0, 0, .null) := by decide +kernel
theorem f79_177 : am_tab 79 177 = some (.iload 6, 2, 0, 0, 0, .null) := by decide +kernel
theorem f79_179 : am_tab 79 179 = some (.ifCond .ne 14, 3, 193, 0, 0, .null) := by decide +kernel
theorem f79_182 : am_tab 79 182 = some (.aload_n 0, 1, 0, 0, 0, .null) := by decide +kernel
theorem f79_183 : am_tab 79 183 = some (.invokevirtual 28, 3, 34, 1, 4195, .int 0) := by decide +kernel
theorem f79_186 : am_tab 79 186 = some (.ifCond .eq 7, 3, 193, 0, 0, .null) := by decide +kernel
theorem f79_189 : am_tab 79 189 = some (.iconst 1, 1, 0, 0, 0, .null) := by decide +kernel
theorem f79_190 : am_tab 79 190 = some (.goto 4, 3, 194, 0, 0, .null) := by decide +kernel
theorem f79_193 : am_tab 79 193 = some (.iconst 0, 1, 0, 0, 0, .null) := by decide +kernel
theorem f79_194 : am_tab 79 194 = some (.ireturn, 1, 0, 0, 0, .null) := by decide +kernel
theorem f79_195 : am_tab 79 195 = some (.iload_n 3, 1, 0, 0, 0, .null) := by decide +kernel
theorem f79_196 : am_tab 79 196 = some (.ifCond .ne 21, 3, 217, 0, 0, .null) := by decide +kernel
theorem f79_199 : am_tab 79 199 = some (.iload 4, 2, 0, 0, 0, .null) := by decide +kernel
theorem f79_201 : am_tab 79 201 = some (.ifCond .ne 16, 3, 217, 0, 0, .null) := by decide +kernel
theorem f79_204 : am_tab 79 204 = some (.aload_n 0, 1, 0, 0, 0, .null) := by decide +kernel
theorem f79_205 : am_tab 79 205 = some (.iload 5, 2, 0, 0, 0, .null) := by decide +kernel
theorem f79_207 : am_tab 79 207 = some (.invokevirtual 32, 3, 35, 2, 4196, .int 0) := by decide +kernel
theorem f79_210 : am_tab 79 210 = some (.ifCond .eq 7, 3, 217, 0, 0, .null) := by decide +kernel
theorem f79_213 : am_tab 79 213 = some (.iconst 1, 1, 0, 0, 0, .null) := by decide +kernel
theorem f79_214 : am_tab 79 214 = some (.goto 4, 3, 218, 0, 0, .null) := by decide +kernel
theorem f79_217 : am_tab 79 217 = some (.iconst 0, 1, 0, 0, 0, .null) := by decide +kernel
theorem f79_218 : am_tab 79 218 = some (.ireturn, 1, 0, 0, 0, .null) := by decide +kernel
theorem f79_219 : am_tab 79 219 = some (.aload_n 2, 1, 0, 0, 0, .null) := by decide +kernel
theorem f79_220 : am_tab 79 220 = some (.getfield 36, 3, 3, 9, 1061, .int 1) := by decide +kernel
theorem f79_223 : am_tab 79 223 = some (.iload_n 1, 1, 0, 0, 0, .null) := by decide +kernel
theorem f79_224 : am_tab 79 224 = some (.sipush 10000, 3, 0, 0, 0, .null) := by decide +kernel
theorem f79_227 : am_tab 79 227 = some (.irem, 1, 0, 0, 0, .null) := by decide +kernel
theorem f79_228 : am_tab 79 228 = some (.if_icmp .gt 7, 3, 235, 0, 0, .null) := by decide +kernel
theorem f79_231 : am_tab 79 231 = some (.iconst 1, 1, 0, 0, 0, .null) := by decide +kernel
theorem f79_232 : am_tab 79 232 = some (.goto 4, 3, 236, 0, 0, .null) := by decide +kernel
theorem f79_235 : am_tab 79 235 = some (.iconst 0, 1, 0, 0, 0, .null) := by decide +kernel
theorem f79_236 : am_tab 79 236 = some (.ireturn, 1, 0, 0, 0, .null) := by decide +kernel
theorem f79_237 : am_tab 79 237 = some (.iload 4, 2, 0, 0, 0, .null) := by decide +kernel
theorem f79_239 : am_tab 79 239 = some (.ifCond .ne 27, 3, 266, 0, 0, .null) := by decide +kernel
theorem f79_242 : am_tab 79 242 = some (.iload_n 3, 1, 0, 0, 0, .null) := by decide +kernel
theorem f79_243 : am_tab 79 243 = some (.invokestatic 42, 3, 134, 1, 4197, .int 3) := by decide +kernel
theorem f79_246 : am_tab 79 246 = some (.ifCond .eq 20, 3, 266, 0, 0, .null) := by decide +kernel
theorem f79_249 : am_tab 79 249 = some (.aload_n 2, 1, 0, 0, 0, .null) := by decide +kernel
theorem f79_250 : am_tab 79 250 = some (.getfield 45, 3, 3, 6, 1052, .int 1) := by decide +kernel
theorem f79_253 : am_tab 79 253 = some (.iload_n 3, 1, 0, 0, 0, .null) := by decide +kernel
theorem f79_254 : am_tab 79 254 = some (.invokestatic 49, 3, 141, 2, 4198, .int 3) := by decide +kernel
theorem f79_257 : am_tab 79 257 = some (.iload 5, 2, 0, 0, 0, .null) := by decide +kernel
theorem f79_259 : am_tab 79 259 = some (.if_icmp .ne 7, 3, 266, 0, 0, .null) := by decide +kernel
theorem f79_262 : am_tab 79 262 = some (.iconst 1, 1, 0, 0, 0, .null) := by decide +kernel
theorem f79_263 : am_tab 79 263 = some (.goto 4, 3, 267, 0, 0, .null) := by decide +kernel
theorem f79_266 : am_tab 79 266 = some (.iconst 0, 1, 0, 0, 0, .null) := by decide +kernel
theorem f79_267 : am_tab 79 267 = some (.ireturn, 1, 0, 0, 0, .null) := by decide +kernel
theorem f79_268 : am_tab 79 268 = some (.aload_n 2, 1, 0, 0, 0, .null) := by decide +kernel
theorem f79_269 : am_tab 79 269 = some (.iload_n 3, 1, 0, 0, 0, .null) := by decide +kernel
theorem f79_270 : am_tab 79 270 = some (.invokevirtual 53, 3, 49, 2, 4199, .int 0) := by decide +kernel
theorem f79_273 : am_tab 79 273 = some (.ifCond .eq 25, 3, 298, 0, 0, .null) := by decide +kernel
theorem f79_276 : am_tab 79 276 = some (.aload_n 2, 1, 0, 0, 0, .null) := by decide +kernel
theorem f79_277 : am_tab 79 277 = some (.iload_n 3, 1, 0, 0, 0, .null) := by decide +kernel
theorem f79_278 : am_tab 79 278 = some (.iconst 1, 1, 0, 0, 0, .null) := by decide +kernel
theorem f79_279 : am_tab 79 279 = some (.iadd, 1, 0, 0, 0, .null) := by decide +kernel
theorem f79_280 : am_tab 79 280 = some (.invokevirtual 56, 3, 50, 2, 4200, .int 0) := by decide +kernel
theorem f79_283 : am_tab 79 283 = some (.aload_n 2, 1, 0, 0, 0, .null) := by decide +kernel
theorem f79_284 : am_tab 79 284 = some (.iload_n 3, 1, 0, 0, 0, .null) := by decide +kernel
theorem f79_285 : am_tab 79 285 = some (.invokevirtual 56, 3, 50, 2, 4200, .int 0) := by decide +kernel
theorem f79_288 : am_tab 79 288 = some (.isub, 1, 0, 0, 0, .null) := by decide +kernel
theorem f79_289 : am_tab 79 289 = some (.iload 6, 2, 0, 0, 0, .null) := by decide +kernel
theorem f79_291 : am_tab 79 291 = some (.if_icmp .lt 7, 3, 298, 0, 0, .null) := by decide +kernel
theorem f79_294 : am_tab 79 294 = some (.iconst 1, 1, 0, 0, 0, .null) := by decide +kernel
theorem f79_295 : am_tab 79 295 = some (.goto 4, 3, 299, 0, 0, .null) := by decide +kernel
theorem f79_298 : am_tab 79 298 = some (.iconst 0, 1, 0, 0, 0, .null) := by decide +kernel
theorem f79_299 : am_tab 79 299 = some (.ireturn, 1, 0, 0, 0, .null) := by decide +kernel
theorem f79_300 : am_tab 79 300 = some (.iload_n 3, 1, 0, 0, 0, .null) := by decide +kernel
theorem f79_301 : am_tab 79 301 = some (.ifCond .ne 16, 3, 317, 0, 0, .null) := by decide +kernel
theorem f79_304 : am_tab 79 304 = some (.aload_n 2, 1, 0, 0, 0, .null) := by decide +kernel
theorem f79_305 : am_tab 79 305 = some (.getfield 60, 3, 3, 11, 1066, .int 1) := by decide +kernel
theorem f79_308 : am_tab 79 308 = some (.iload 6, 2, 0, 0, 0, .null) := by decide +kernel
theorem f79_310 : am_tab 79 310 = some (.if_icmp .gt 7, 3, 317, 0, 0, .null) := by decide +kernel
theorem f79_313 : am_tab 79 313 = some (.iconst 1, 1, 0, 0, 0, .null) := by decide +kernel
theorem f79_314 : am_tab 79 314 = some (.goto 4, 3, 318, 0, 0, .null) := by decide +kernel
theorem f79_317 : am_tab 79 317 = some (.iconst 0, 1, 0, 0, 0, .null) := by decide +kernel
theorem f79_318 : am_tab 79 318 = some (.ireturn, 1, 0, 0, 0, .null) := by decide +kernel
theorem f79_319 : am_tab 79 319 = some (.iconst 0, 1, 0, 0, 0, .null) := by decide +kernel
theorem f79_320 : am_tab 79 320 = some (.ireturn, 1, 0, 0, 0, .null) := by decide +kernel
theorem f80_0 : am_tab 80 0 = some (.aload_n 0, 1, 0, 0, 0, .null) := by decide +kernel
theorem f80_1 : am_tab 80 1 = some (.invokespecial 3, 3, 0, 0, 1099, .int 6) := by decide +kernel
theorem f80_4 : am_tab 80 4 = some (.aload_n 0, 1, 0, 0, 0, .null) := by decide +kernel
theorem f80_5 : am_tab 80 5 = some (.new 9, 3, 0, 1, 1100, .null) := by decide +kernel
theorem f80_8 : am_tab 80 8 = some (.dup, 1, 0, 0, 0, .null) := by decide +kernel
theorem f80_9 : am_tab 80 9 = some (.invokespecial 11, 3, 23, 1, 1102, .int 5) := by decide +kernel
theorem f80_12 : am_tab 80 12 = some (.putfield 12, 3, 5, 0, 1110, .null) := by decide +kernel
theorem f80_15 : am_tab 80 15 = some (.return_, 1, 0, 0, 0, .null) := by decide +kernel
theorem f81_0 : am_tab 81 0 = some (.aload_n 0, 1, 0, 0, 0, .null) := by decide +kernel
theorem f81_1 : am_tab 81 1 = some (.aload_n 1, 1, 0, 0, 0, .null) := by decide +kernel
theorem f81_2 : am_tab 81 2 = some (.putfield 18, 3, 5, 1, 1111, .null) := by decide +kernel
theorem f81_5 : am_tab 81 5 = some (.aload_n 0, 1, 0, 0, 0, .null) := by decide +kernel
theorem f81_6 : am_tab 81 6 = some (.iconst 0, 1, 0, 0, 0, .null) := by decide +kernel
theorem f81_7 : am_tab 81 7 = some (.putfield 22, 3, 5, 2, 1112, .null) := by decide +kernel
theorem f81_10 : am_tab 81 10 = some (.aload_n 0, 1, 0, 0, 0, .null) := by decide +kernel
theorem f81_11 : am_tab 81 11 = some (.lconst 0, 1, 0, 0, 0, .null) := by decide +kernel
theorem f81_12 : am_tab 81 12 = some (.putfield 26, 3, 5, 3, 1115, .null) := by decide +kernel
theorem f81_15 : am_tab 81 15 = some (.aload_n 0, 1, 0, 0, 0, .null) := by decide +kernel
theorem f81_16 : am_tab 81 16 = some (.getfield 12, 3, 5, 0, 1110, .null) := by decide +kernel
theorem f81_19 : am_tab 81 19 = some (.aload_n 1, 1, 0, 0, 0, .null) := by decide +kernel
theorem f81_20 : am_tab 81 20 = some (.iload_n 2, 1, 0, 0, 0, .null) := by decide +kernel
theorem f81_21 : am_tab 81 21 = some (.invokevirtual 30, 3, 24, 3, 2143, .int 0) := by decide +kernel
theorem f81_24 : am_tab 81 24 = some (.aload_n 1, 1, 0, 0, 0, .null) := by decide +kernel
theorem f81_25 : am_tab 81 25 = some (.invokevirtual 34, 3, 48, 1, 2162, .int 0) := by decide +kernel
theorem f81_28 : am_tab 81 28 = some (.istore_n 3, 1, 0, 0, 0, .null) := by decide +kernel
theorem f81_29 : am_tab 81 29 = some (.iconst 0, 1, 0, 0, 0, .null) := by decide +kernel
theorem f81_30 : am_tab 81 30 = some (.istore 4, 2, 0, 0, 0, .null) := by decide +kernel
theorem f81_32 : am_tab 81 32 = some (.iload 4, 2, 0, 0, 0, .null) := by decide +kernel
theorem f81_34 : am_tab 81 34 = some (.iload_n 3, 1, 0, 0, 0, .null) := by decide +kernel
theorem f81_35 : am_tab 81 35 = some (.if_icmp .ge 91, 3, 126, 0, 0, .null) := by decide +kernel
theorem f81_38 : am_tab 81 38 = some (.aload_n 1, 1, 0, 0, 0, .null) := by decide +kernel
theorem f81_39 : am_tab 81 39 = some (.iload 4, 2, 0, 0, 0, .null) := by decide +kernel
theorem f81_41 : am_tab 81 41 = some (.invokevirtual 40, 3, 50, 2, 2163, .int 0) := by decide +kernel
theorem f81_44 : am_tab 81 44 = some (.istore 5, 2, 0, 0, 0, .null) := by decide +kernel
theorem f81_46 : am_tab 81 46 = some (.aload_n 1, 1, 0, 0, 0, .null) := by decide +kernel
theorem f81_47 : am_tab 81 47 = some (.iload 4, 2, 0, 0, 0, .null) := by decide +kernel
theorem f81_49 : am_tab 81 49 = some (.iconst 1, 1, 0, 0, 0, .null) := by decide +kernel
theorem f81_50 : am_tab 81 50 = some (.iadd, 1, 0, 0, 0, .null) := by decide +kernel
theorem f81_51 : am_tab 81 51 = some (.invokevirtual 40, 3, 50, 2, 2163, .int 0) := by decide +kernel
theorem f81_54 : am_tab 81 54 = some (.istore 6, 2, 0, 0, 0, .null) := by decide +kernel
theorem f81_56 : am_tab 81 56 = some (.aload_n 1, 1, 0, 0, 0, .null) := by decide +kernel
theorem f81_57 : am_tab 81 57 = some (.iload 4, 2, 0, 0, 0, .null) := by decide +kernel
theorem f81_59 : am_tab 81 59 = some (.invokevirtual 44, 3, 47, 2, 2164, .int 0) := by decide +kernel
theorem f81_62 : am_tab 81 62 = some (.istore 7, 2, 0, 0, 0, .null) := by decide +kernel
theorem f81_64 : am_tab 81 64 = some (.aload_n 1, 1, 0, 0, 0, .null) := by decide +kernel
theorem f81_65 : am_tab 81 65 = some (.getfield 47, 3, 3, 8, 1057, .int 1) := by decide +kernel
theorem f81_68 : am_tab 81 68 = some (.ifCond .ne 23, 3, 91, 0, 0, .null) := by decide +kernel
theorem f81_71 : am_tab 81 71 = some (.aload_n 0, 1, 0, 0, 0, .null) := by decide +kernel
theorem f81_72 : am_tab 81 72 = some (.dup, 1, 0, 0, 0, .null) := by decide +kernel
theorem f81_73 : am_tab 81 73 = some (.getfield 22, 3, 5, 2, 1112, .null) := by decide +kernel
theorem f81_76 : am_tab 81 76 = some (.iconst 1, 1, 0, 0, 0, .null) := by decide +kernel
theorem f81_77 : am_tab 81 77 = some (.iadd, 1, 0, 0, 0, .null) := by decide +kernel
theorem f81_78 : am_tab 81 78 = some (.putfield 22, 3, 5, 2, 1112, .null) := by decide +kernel
theorem f81_81 : am_tab 81 81 = some (.aload_n 1, 1, 0, 0, 0, .null) := by decide +kernel
theorem f81_82 : am_tab 81 82 = some (.iload 5, 2, 0, 0, 0, .null) := by decide +kernel
theorem f81_84 : am_tab 81 84 = some (.iload 6, 2, 0, 0, 0, .null) := by decide +kernel
theorem f81_86 : am_tab 81 86 = some (.invokevirtual 50, 3, 53, 3, 2168, .int 0) := by decide +kernel
theorem f81_89 : am_tab 81 89 = some (.istore 7, 2, 0, 0, 0, .null) := by decide +kernel
theorem f81_91 : am_tab 81 91 = some (.aload_n 1, 1, 0, 0, 0, .null) := by decide +kernel
theorem f81_92 : am_tab 81 92 = some (.iload 5, 2, 0, 0, 0, .null) := by decide +kernel
theorem f81_94 : am_tab 81 94 = some (.iload 6, 2, 0, 0, 0, .null) := by decide +kernel
theorem f81_96 : am_tab 81 96 = some (.invokevirtual 54, 3, 52, 3, 2169, .int 0) := by decide +kernel
theorem f81_99 : am_tab 81 99 = some (.iload 7, 2, 0, 0, 0, .null) := by decide +kernel
theorem f81_101 : am_tab 81 101 = some (.isub, 1, 0, 0, 0, .null) := by decide +kernel
theorem f81_102 : am_tab 81 102 = some (.istore 8, 2, 0, 0, 0, .null) := by decide +kernel
theorem f81_104 : am_tab 81 104 = some (.iload 8, 2, 0, 0, 0, .null) := by decide +kernel
theorem f81_106 : am_tab 81 106 = some (.ifCond .le 14, 3, 120, 0, 0, .null) := by decide +kernel
theorem f81_109 : am_tab 81 109 = some (.aload_n 0, 1, 0, 0, 0, .null) := by decide +kernel
theorem f81_110 : am_tab 81 110 = some (.iload 5, 2, 0, 0, 0, .null) := by decide +kernel
theorem f81_112 : am_tab 81 112 = some (.iload 6, 2, 0, 0, 0, .null) := by decide +kernel
theorem f81_114 : am_tab 81 114 = some (.iload 8, 2, 0, 0, 0, .null) := by decide +kernel
theorem f81_116 : am_tab 81 116 = some (.iconst 0, 1, 0, 0, 0, .null) := by decide +kernel
theorem f81_117 : am_tab 81 117 = some (.invokestatic 57, 3, 82, 5, 2173, .int 2) := by decide +kernel
theorem f81_120 : am_tab 81 120 = some (.iinc 4 1, 3, 0, 0, 0, .null) := by decide +kernel
theorem f81_123 : am_tab 81 123 = some (.goto (-91), 3, 32, 0, 0, .null) := by decide +kernel
theorem f81_126 : am_tab 81 126 = some (.return_, 1, 0, 0, 0, .null) := by decide +kernel
theorem f82_0 : am_tab 82 0 = some (.aload_n 0, 1, 0, 0, 0, .null) := by decide +kernel
theorem f82_1 : am_tab 82 1 = some (.getfield 18, 3, 5, 1, 1111, .null) := by decide +kernel
theorem f82_4 : am_tab 82 4 = some (.astore 5, 2, 0, 0, 0, .null) := by decide +kernel
theorem f82_6 : am_tab 82 6 = some (.aload 5, 2, 0, 0, 0, .null) := by decide +kernel
theorem f82_8 : am_tab 82 8 = some (.ifnull 15, 3, 23, 0, 0, .null) := by decide +kernel
theorem f82_11 : am_tab 82 11 = some (.iload 4, 2, 0, 0, 0, .null) := by decide +kernel
theorem f82_13 : am_tab 82 13 = some (.bipush 48, 2, 0, 0, 0, .null) := by decide +kernel
theorem f82_15 : am_tab 82 15 = some (.if_icmp .ge 8, 3, 23, 0, 0, .null) := by decide +kernel
theorem f82_18 : am_tab 82 18 = some (.iload_n 1, 1, 0, 0, 0, .null) := by decide +kernel
theorem f82_19 : am_tab 82 19 = some (.iload_n 2, 1, 0, 0, 0, .null) := by decide +kernel
theorem f82_20 : am_tab 82 20 = some (.if_icmp .lt 4, 3, 24, 0, 0, .null) := by decide +kernel
theorem f82_23 : am_tab 82 23 = some (.return_, 1, 0, 0, 0, .null) := by decide +kernel
theorem f82_24 : am_tab 82 24 = some (.iload_n 3, 1, 0, 0, 0, .null) := by decide +kernel
theorem f82_25 : am_tab 82 25 = some (.aload 5, 2, 0, 0, 0, .null) := by decide +kernel
theorem f82_27 : am_tab 82 27 = some (.iload_n 1, 1, 0, 0, 0, .null) := by decide +kernel
theorem f82_28 : am_tab 82 28 = some (.iload_n 2, 1, 0, 0, 0, .null) := by decide +kernel
theorem f82_29 : am_tab 82 29 = some (.invokevirtual 54, 3, 52, 3, 2169, .int 0) := by decide +kernel
theorem f82_32 : am_tab 82 32 = some (.if_icmp .ne 18, 3, 50, 0, 0, .null) := by decide +kernel
theorem f82_35 : am_tab 82 35 = some (.aload_n 0, 1, 0, 0, 0, .null) := by decide +kernel
theorem f82_36 : am_tab 82 36 = some (.dup, 1, 0, 0, 0, .null) := by decide +kernel
theorem f82_37 : am_tab 82 37 = some (.getfield 26, 3, 5, 3, 1115, .null) := by decide +kernel
theorem f82_40 : am_tab 82 40 = some (.iload_n 1, 1, 0, 0, 0, .null) := by decide +kernel
theorem f82_41 : am_tab 82 41 = some (.iload_n 2, 1, 0, 0, 0, .null) := by decide +kernel
theorem f82_42 : am_tab 82 42 = some (.invokestatic 61, 3, 83, 2, 2176, .int 2) := by decide +kernel
theorem f82_45 : am_tab 82 45 = some (.lor, 1, 0, 0, 0, .null) := by decide +kernel
theorem f82_46 : am_tab 82 46 = some (.putfield 26, 3, 5, 3, 1115, .null) := by decide +kernel
theorem f82_49 : am_tab 82 49 = some (.return_, 1, 0, 0, 0, .null) := by decide +kernel
theorem f82_50 : am_tab 82 50 = some (.aload_n 0, 1, 0, 0, 0, .null) := by decide +kernel
theorem f82_51 : am_tab 82 51 = some (.dup, 1, 0, 0, 0, .null) := by decide +kernel
theorem f82_52 : am_tab 82 52 = some (.getfield 22, 3, 5, 2, 1112, .null) := by decide +kernel
theorem f82_55 : am_tab 82 55 = some (.iconst 1, 1, 0, 0, 0, .null) := by decide +kernel
theorem f82_56 : am_tab 82 56 = some (.iadd, 1, 0, 0, 0, .null) := by decide +kernel
theorem f82_57 : am_tab 82 57 = some (.putfield 22, 3, 5, 2, 1112, .null) := by decide +kernel
theorem f82_60 : am_tab 82 60 = some (.iload_n 2, 1, 0, 0, 0, .null) := by decide +kernel
theorem f82_61 : am_tab 82 61 = some (.iload_n 1, 1, 0, 0, 0, .null) := by decide +kernel
theorem f82_62 : am_tab 82 62 = some (.isub, 1, 0, 0, 0, .null) := by decide +kernel
theorem f82_63 : am_tab 82 63 = some (.iconst 1, 1, 0, 0, 0, .null) := by decide +kernel
theorem f82_64 : am_tab 82 64 = some (.if_icmp .ne 22, 3, 86, 0, 0, .null) := by decide +kernel
theorem f82_67 : am_tab 82 67 = some (.aload_n 0, 1, 0, 0, 0, .null) := by decide +kernel
theorem f82_68 : am_tab 82 68 = some (.dup, 1, 0, 0, 0, .null) := by decide +kernel
theorem f82_69 : am_tab 82 69 = some (.getfield 26, 3, 5, 3, 1115, .null) := by decide +kernel
theorem f82_72 : am_tab 82 72 = some (.aload 5, 2, 0, 0, 0, .null) := by decide +kernel
theorem f82_74 : am_tab 82 74 = some (.getfield 65, 3, 3, 5, 1049, .int 1) := by decide +kernel
theorem f82_77 : am_tab 82 77 = some (.lconst 1, 1, 0, 0, 0, .null) := by decide +kernel
theorem f82_78 : am_tab 82 78 = some (.iload_n 1, 1, 0, 0, 0, .null) := by decide +kernel
theorem f82_79 : am_tab 82 79 = some (.lshl, 1, 0, 0, 0, .null) := by decide +kernel
theorem f82_80 : am_tab 82 80 = some (.land, 1, 0, 0, 0, .null) := by decide +kernel
theorem f82_81 : am_tab 82 81 = some (.lor, 1, 0, 0, 0, .null) := by decide +kernel
theorem f82_82 : am_tab 82 82 = some (.putfield 26, 3, 5, 3, 1115, .null) := by decide +kernel
theorem f82_85 : am_tab 82 85 = some (.return_, 1, 0, 0, 0, .null) := by decide +kernel
theorem f82_86 : am_tab 82 86 = some (.aload_n 0, 1, 0, 0, 0, .null) := by decide +kernel
theorem f82_87 : am_tab 82 87 = some (.getfield 12, 3, 5, 0, 1110, .null) := by decide +kernel
theorem f82_90 : am_tab 82 90 = some (.iload_n 1, 1, 0, 0, 0, .null) := by decide +kernel
theorem f82_91 : am_tab 82 91 = some (.iload_n 2, 1, 0, 0, 0, .null) := by decide +kernel
theorem f82_92 : am_tab 82 92 = some (.invokevirtual 68, 3, 26, 3, 2179, .int 0) := by decide +kernel
theorem f82_95 : am_tab 82 95 = some (.istore 6, 2, 0, 0, 0, .null) := by decide +kernel
theorem f82_97 : am_tab 82 97 = some (.aload 5, 2, 0, 0, 0, .null) := by decide +kernel
theorem f82_99 : am_tab 82 99 = some (.iload_n 1, 1, 0, 0, 0, .null) := by decide +kernel
theorem f82_100 : am_tab 82 100 = some (.iload 6, 2, 0, 0, 0, .null) := by decide +kernel
theorem f82_102 : am_tab 82 102 = some (.invokevirtual 54, 3, 52, 3, 2169, .int 0) := by decide +kernel
theorem f82_105 : am_tab 82 105 = some (.aload 5, 2, 0, 0, 0, .null) := by decide +kernel
theorem f82_107 : am_tab 82 107 = some (.iload_n 1, 1, 0, 0, 0, .null) := by decide +kernel
theorem f82_108 : am_tab 82 108 = some (.iload 6, 2, 0, 0, 0, .null) := by decide +kernel
theorem f82_110 : am_tab 82 110 = some (.invokevirtual 50, 3, 53, 3, 2168, .int 0) := by decide +kernel
theorem f82_113 : am_tab 82 113 = some (.isub, 1, 0, 0, 0, .null) := by decide +kernel
theorem f82_114 : am_tab 82 114 = some (.istore 7, 2, 0, 0, 0, .null) := by decide +kernel
theorem f82_116 : am_tab 82 116 = some (.iload 7, 2, 0, 0, 0, .null) := by decide +kernel
theorem f82_118 : am_tab 82 118 = some (.ifCond .le 16, 3, 134, 0, 0, .null) := by decide +kernel
theorem f82_121 : am_tab 82 121 = some (.aload_n 0, 1, 0, 0, 0, .null) := by decide +kernel
theorem f82_122 : am_tab 82 122 = some (.iload_n 1, 1, 0, 0, 0, .null) := by decide +kernel
theorem f82_123 : am_tab 82 123 = some (.iload 6, 2, 0, 0, 0, .null) := by decide +kernel
theorem f82_125 : am_tab 82 125 = some (.iload 7, 2, 0, 0, 0, .null) := by decide +kernel
theorem f82_127 : am_tab 82 127 = some (.iload 4, 2, 0, 0, 0, .null) := by decide +kernel
theorem f82_129 : am_tab 82 129 = some (.iconst 1, 1, 0, 0, 0, .null) := by decide +kernel
theorem f82_130 : am_tab 82 130 = some (.iadd, 1, 0, 0, 0, .null) := by decide +kernel
theorem f82_131 : am_tab 82 131 = some (.invokestatic 57, 3, 82, 5, 2173, .int 2) := by decide +kernel
theorem f82_134 : am_tab 82 134 = some (.iload_n 3, 1, 0, 0, 0, .null) := by decide +kernel
theorem f82_135 : am_tab 82 135 = some (.iload 7, 2, 0, 0, 0, .null) := by decide +kernel
theorem f82_137 : am_tab 82 137 = some (.if_icmp .le 18, 3, 155, 0, 0, .null) := by decide +kernel
theorem f82_140 : am_tab 82 140 = some (.aload_n 0, 1, 0, 0, 0, .null) := by decide +kernel
theorem f82_141 : am_tab 82 141 = some (.iload 6, 2, 0, 0, 0, .null) := by decide +kernel
theorem f82_143 : am_tab 82 143 = some (.iload_n 2, 1, 0, 0, 0, .null) := by decide +kernel
theorem f82_144 : am_tab 82 144 = some (.iload_n 3, 1, 0, 0, 0, .null) := by decide +kernel
theorem f82_145 : am_tab 82 145 = some (.iload 7, 2, 0, 0, 0, .null) := by decide +kernel
theorem f82_147 : am_tab 82 147 = some (.isub, 1, 0, 0, 0, .null) := by decide +kernel
theorem f82_148 : am_tab 82 148 = some (.iload 4, 2, 0, 0, 0, .null) := by decide +kernel
theorem f82_150 : am_tab 82 150 = some (.iconst 1, 1, 0, 0, 0, .null) := by decide +kernel
theorem f82_151 : am_tab 82 151 = some (.iadd, 1, 0, 0, 0, .null) := by decide +kernel
theorem f82_152 : am_tab 82 152 = some (.invokestatic 57, 3, 82, 5, 2173, .int 2) := by decide +kernel
theorem f82_155 : am_tab 82 155 = some (.return_, 1, 0, 0, 0, .null) := by decide +kernel
theorem f83_0 : am_tab 83 0 = some (.lconst 1, 1, 0, 0, 0, .null) := by decide +kernel
theorem f83_1 : am_tab 83 1 = some (.iload_n 1, 1, 0, 0, 0, .null) := by decide +kernel
theorem f83_2 : am_tab 83 2 = some (.lshl, 1, 0, 0, 0, .null) := by decide +kernel
theorem f83_3 : am_tab 83 3 = some (.lconst 1, 1, 0, 0, 0, .null) := by decide +kernel
theorem f83_4 : am_tab 83 4 = some (.iload_n 0, 1, 0, 0, 0, .null) := by decide +kernel
theorem f83_5 : am_tab 83 5 = some (.lshl, 1, 0, 0, 0, .null) := by decide +kernel
theorem f83_6 : am_tab 83 6 = some (.lsub, 1, 0, 0, 0, .null) := by decide +kernel
theorem f83_7 : am_tab 83 7 = some (.lreturn, 1, 0, 0, 0, .null) := by decide +kernel
theorem f84_0 : am_tab 84 0 = some (.iload_n 1, 1, 0, 0, 0, .null) := by decide +kernel
theorem f84_1 : am_tab 84 1 = some (.bipush 8, 2, 0, 0, 0, .null) := by decide +kernel
theorem f84_3 : am_tab 84 3 = some (.idiv, 1, 0, 0, 0, .null) := by decide +kernel
theorem f84_4 : am_tab 84 4 = some (.istore_n 2, 1, 0, 0, 0, .null) := by decide +kernel
theorem f84_5 : am_tab 84 5 = some (.iload_n 1, 1, 0, 0, 0, .null) := by decide +kernel
theorem f84_6 : am_tab 84 6 = some (.bipush 8, 2, 0, 0, 0, .null) := by decide +kernel
theorem f84_8 : am_tab 84 8 = some (.irem, 1, 0, 0, 0, .null) := by decide +kernel
theorem f84_9 : am_tab 84 9 = some (.tableswitch 130 0 5 #[39, 39, 65, 86, 114, 122], 39, 0, 0, 0, .null) := by decide +kernel
theorem f84_48 : am_tab 84 48 = some (.aload_n 0, 1, 0, 0, 0, .null) := by decide +kernel
theorem f84_49 : am_tab 84 49 = some (.iload_n 2, 1, 0, 0, 0, .null) := by decide +kernel
theorem f84_50 : am_tab 84 50 = some (.bipush 48, 2, 0, 0, 0, .null) := by decide +kernel
theorem f84_52 : am_tab 84 52 = some (.irem, 1, 0, 0, 0, .null) := by decide +kernel
theorem f84_53 : am_tab 84 53 = some (.iload_n 2, 1, 0, 0, 0, .null) := by decide +kernel
theorem f84_54 : am_tab 84 54 = some (.bipush 48, 2, 0, 0, 0, .null) := by decide +kernel
theorem f84_56 : am_tab 84 56 = some (.idiv, 1, 0, 0, 0, .null) := by decide +kernel
theorem f84_57 : am_tab 84 57 = some (.iconst 3, 1, 0, 0, 0, .null) := by decide +kernel
theorem f84_58 : am_tab 84 58 = some (.irem, 1, 0, 0, 0, .null) := by decide +kernel
theorem f84_59 : am_tab 84 59 = some (.ifCond .eq 7, 3, 66, 0, 0, .null) := by decide +kernel
theorem f84_62 : am_tab 84 62 = some (.iconst 1, 1, 0, 0, 0, .null) := by decide +kernel
theorem f84_63 : am_tab 84 63 = some (.goto 4, 3, 67, 0, 0, .null) := by decide +kernel
theorem f84_66 : am_tab 84 66 = some (.iconst 0, 1, 0, 0, 0, .null) := by decide +kernel
theorem f84_67 : am_tab 84 67 = some (.invokevirtual 7, 3, 30, 3, 4214, .int 0) := by decide +kernel
theorem f84_70 : am_tab 84 70 = some (.pop, 1, 0, 0, 0, .null) := by decide +kernel
theorem f84_71 : am_tab 84 71 = some (.goto 76, 3, 147, 0, 0, .null) := by decide +kernel
theorem f84_74 : am_tab 84 74 = some (.aload_n 0, 1, 0, 0, 0, .null) := by decide +kernel
theorem f84_75 : am_tab 84 75 = some (.iload_n 2, 1, 0, 0, 0, .null) := by decide +kernel
theorem f84_76 : am_tab 84 76 = some (.bipush 48, 2, 0, 0, 0, .null) := by decide +kernel
theorem f84_78 : am_tab 84 78 = some (.irem, 1, 0, 0, 0, .null) := by decide +kernel
theorem f84_79 : am_tab 84 79 = some (.iconst 1, 1, 0, 0, 0, .null) := by decide +kernel
theorem f84_80 : am_tab 84 80 = some (.iload_n 2, 1, 0, 0, 0, .null) := by decide +kernel
theorem f84_81 : am_tab 84 81 = some (.bipush 48, 2, 0, 0, 0, .null) := by decide +kernel
theorem f84_83 : am_tab 84 83 = some (.idiv, 1, 0, 0, 0, .null) := by decide +kernel
theorem f84_84 : am_tab 84 84 = some (.bipush 99, 2, 0, 0, 0, .null) := by decide +kernel
theorem f84_86 : am_tab 84 86 = some (.irem, 1, 0, 0, 0, .null) := by decide +kernel
theorem f84_87 : am_tab 84 87 = some (.iadd, 1, 0, 0, 0, .null) := by decide +kernel
theorem f84_88 : am_tab 84 88 = some (.invokevirtual 13, 3, 29, 3, 4215, .int 0) := by decide +kernel
theorem f84_91 : am_tab 84 91 = some (.pop, 1, 0, 0, 0, .null) := by decide +kernel
theorem f84_92 : am_tab 84 92 = some (.goto 55, 3, 147, 0, 0, .null) := by decide +kernel
theorem f84_95 : am_tab 84 95 = some (.aload_n 0, 1, 0, 0, 0, .null) := by decide +kernel
theorem f84_96 : am_tab 84 96 = some (.iconst 1, 1, 0, 0, 0, .null) := by decide +kernel
theorem f84_97 : am_tab 84 97 = some (.iload_n 2, 1, 0, 0, 0, .null) := by decide +kernel
theorem f84_98 : am_tab 84 98 = some (.bipush 47, 2, 0, 0, 0, .null) := by decide +kernel
theorem f84_100 : am_tab 84 100 = some (.irem, 1, 0, 0, 0, .null) := by decide +kernel
theorem f84_101 : am_tab 84 101 = some (.iadd, 1, 0, 0, 0, .null) := by decide +kernel
theorem f84_102 : am_tab 84 102 = some (.iload_n 2, 1, 0, 0, 0, .null) := by decide +kernel
theorem f84_103 : am_tab 84 103 = some (.bipush 64, 2, 0, 0, 0, .null) := by decide +kernel
theorem f84_105 : am_tab 84 105 = some (.idiv, 1, 0, 0, 0, .null) := by decide +kernel
theorem f84_106 : am_tab 84 106 = some (.iconst 2, 1, 0, 0, 0, .null) := by decide +kernel
theorem f84_107 : am_tab 84 107 = some (.irem, 1, 0, 0, 0, .null) := by decide +kernel
theorem f84_108 : am_tab 84 108 = some (.ifCond .ne 7, 3, 115, 0, 0, .null) := by decide +kernel
theorem f84_111 : am_tab 84 111 = some (.iconst 1, 1, 0, 0, 0, .null) := by decide +kernel
theorem f84_112 : am_tab 84 112 = some (.goto 4, 3, 116, 0, 0, .null) := by decide +kernel
theorem f84_115 : am_tab 84 115 = some (.iconst 0, 1, 0, 0, 0, .null) := by decide +kernel
theorem f84_116 : am_tab 84 116 = some (.invokevirtual 17, 3, 31, 3, 4216, .int 0) := by decide +kernel
theorem f84_119 : am_tab 84 119 = some (.pop, 1, 0, 0, 0, .null) := by decide +kernel
theorem f84_120 : am_tab 84 120 = some (.goto 27, 3, 147, 0, 0, .null) := by decide +kernel
theorem f84_123 : am_tab 84 123 = some (.aload_n 0, 1, 0, 0, 0, .null) := by decide +kernel
theorem f84_124 : am_tab 84 124 = some (.invokevirtual 20, 3, 34, 1, 4217, .int 0) := by decide +kernel
theorem f84_127 : am_tab 84 127 = some (.pop, 1, 0, 0, 0, .null) := by decide +kernel
theorem f84_128 : am_tab 84 128 = some (.goto 19, 3, 147, 0, 0, .null) := by decide +kernel
theorem f84_131 : am_tab 84 131 = some (.aload_n 0, 1, 0, 0, 0, .null) := by decide +kernel
theorem f84_132 : am_tab 84 132 = some (.iload_n 2, 1, 0, 0, 0, .null) := by decide +kernel
theorem f84_133 : am_tab 84 133 = some (.invokestatic 24, 3, 85, 2, 4218, .int 2) := by decide +kernel
theorem f84_136 : am_tab 84 136 = some (.goto 11, 3, 147, 0, 0, .null) := by decide +kernel
theorem f84_139 : am_tab 84 139 = some (.aload_n 0, 1, 0, 0, 0, .null) := by decide +kernel
theorem f84_140 : am_tab 84 140 = some (.iload_n 2, 1, 0, 0, 0, .null) := by decide +kernel
theorem f84_141 : am_tab 84 141 = some (.iconst 3, 1, 0, 0, 0, .null) := by decide +kernel
theorem f84_142 : am_tab 84 142 = some (.irem, 1, 0, 0, 0, .null) := by decide +kernel
theorem f84_143 : am_tab 84 143 = some (.invokevirtual 30, 3, 35, 2, 4222, .int 0) := by decide +kernel
theorem f84_146 : am_tab 84 146 = some (.pop, 1, 0, 0, 0, .null) := by decide +kernel
theorem f84_147 : am_tab 84 147 = some (.return_, 1, 0, 0, 0, .null) := by decide +kernel
theorem f85_0 : am_tab 85 0 = some (.iload_n 1, 1, 0, 0, 0, .null) := by decide +kernel
theorem f85_1 : am_tab 85 1 = some (.sipush 128, 3, 0, 0, 0, .null) := by decide +kernel
theorem f85_4 : am_tab 85 4 = some (.idiv, 1, 0, 0, 0, .null) := by decide +kernel
theorem f85_5 : am_tab 85 5 = some (.iconst 2, 1, 0, 0, 0, .null) := by decide +kernel
theorem f85_6 : am_tab 85 6 = some (.irem, 1, 0, 0, 0, .null) := by decide +kernel
theorem f85_7 : am_tab 85 7 = some (.ifCond .ne 23, 3, 30, 0, 0, .null) := by decide +kernel
theorem f85_10 : am_tab 85 10 = some (.aload_n 0, 1, 0, 0, 0, .null) := by decide +kernel
theorem f85_11 : am_tab 85 11 = some (.iload_n 1, 1, 0, 0, 0, .null) := by decide +kernel
theorem f85_12 : am_tab 85 12 = some (.bipush 12, 2, 0, 0, 0, .null) := by decide +kernel
theorem f85_14 : am_tab 85 14 = some (.irem, 1, 0, 0, 0, .null) := by decide +kernel
theorem f85_15 : am_tab 85 15 = some (.iload_n 1, 1, 0, 0, 0, .null) := by decide +kernel
theorem f85_16 : am_tab 85 16 = some (.bipush 16, 2, 0, 0, 0, .null) := by decide +kernel
theorem f85_18 : am_tab 85 18 = some (.idiv, 1, 0, 0, 0, .null) := by decide +kernel
theorem f85_19 : am_tab 85 19 = some (.iconst 5, 1, 0, 0, 0, .null) := by decide +kernel
theorem f85_20 : am_tab 85 20 = some (.irem, 1, 0, 0, 0, .null) := by decide +kernel
theorem f85_21 : am_tab 85 21 = some (.iconst 2, 1, 0, 0, 0, .null) := by decide +kernel
theorem f85_22 : am_tab 85 22 = some (.isub, 1, 0, 0, 0, .null) := by decide +kernel
theorem f85_23 : am_tab 85 23 = some (.invokevirtual 34, 3, 33, 3, 4221, .int 0) := by decide +kernel
theorem f85_26 : am_tab 85 26 = some (.pop, 1, 0, 0, 0, .null) := by decide +kernel
theorem f85_27 : am_tab 85 27 = some (.goto 13, 3, 40, 0, 0, .null) := by decide +kernel
theorem f85_30 : am_tab 85 30 = some (.aload_n 0, 1, 0, 0, 0, .null) := by decide +kernel
theorem f85_31 : am_tab 85 31 = some (.getfield 37, 3, 1, 0, 1129, .int 1) := by decide +kernel
theorem f85_34 : am_tab 85 34 = some (.iload_n 1, 1, 0, 0, 0, .null) := by decide +kernel
theorem f85_35 : am_tab 85 35 = some (.iconst 2, 1, 0, 0, 0, .null) := by decide +kernel
theorem f85_36 : am_tab 85 36 = some (.irem, 1, 0, 0, 0, .null) := by decide +kernel
theorem f85_37 : am_tab 85 37 = some (.putfield 41, 3, 3, 8, 1058, .int 1) := by decide +kernel
theorem f85_40 : am_tab 85 40 = some (.return_, 1, 0, 0, 0, .null) := by decide +kernel
theorem f86_0 : am_tab 86 0 = some (.aload_n 0, 1, 0, 0, 0, .null) := by decide +kernel
theorem f86_1 : am_tab 86 1 = some (.invokespecial 3, 3, 0, 0, 1201, .int 6) := by decide +kernel
theorem f86_4 : am_tab 86 4 = some (.aload_n 0, 1, 0, 0, 0, .null) := by decide +kernel
theorem f86_5 : am_tab 86 5 = some (.iconst 2, 1, 0, 0, 0, .null) := by decide +kernel
theorem f86_6 : am_tab 86 6 = some (.anewarray 9, 3, 4, 0, 1202, .null) := by decide +kernel
theorem f86_9 : am_tab 86 9 = some (.putfield 11, 3, 6, 0, 1204, .null) := by decide +kernel
theorem f86_12 : am_tab 86 12 = some (.aload_n 0, 1, 0, 0, 0, .null) := by decide +kernel
theorem f86_13 : am_tab 86 13 = some (.iconst 2, 1, 0, 0, 0, .null) := by decide +kernel
theorem f86_14 : am_tab 86 14 = some (.newarray .boolean, 2, 2, 0, 1211, .null) := by decide +kernel
theorem f86_16 : am_tab 86 16 = some (.putfield 17, 3, 6, 1, 1205, .null) := by decide +kernel
theorem f86_19 : am_tab 86 19 = some (.iconst 0, 1, 0, 0, 0, .null) := by decide +kernel
theorem f86_20 : am_tab 86 20 = some (.istore_n 1, 1, 0, 0, 0, .null) := by decide +kernel
theorem f86_21 : am_tab 86 21 = some (.iload_n 1, 1, 0, 0, 0, .null) := by decide +kernel
theorem f86_22 : am_tab 86 22 = some (.iconst 2, 1, 0, 0, 0, .null) := by decide +kernel
theorem f86_23 : am_tab 86 23 = some (.if_icmp .ge 22, 3, 45, 0, 0, .null) := by decide +kernel
theorem f86_26 : am_tab 86 26 = some (.aload_n 0, 1, 0, 0, 0, .null) := by decide +kernel
theorem f86_27 : am_tab 86 27 = some (.getfield 11, 3, 6, 0, 1204, .null) := by decide +kernel
theorem f86_30 : am_tab 86 30 = some (.iload_n 1, 1, 0, 0, 0, .null) := by decide +kernel
theorem f86_31 : am_tab 86 31 = some (.new 9, 3, 3, 12, 1202, .null) := by decide +kernel
theorem f86_34 : am_tab 86 34 = some (.dup, 1, 0, 0, 0, .null) := by decide +kernel
theorem f86_35 : am_tab 86 35 = some (.invokespecial 21, 3, 41, 1, 1203, .int 4) := by decide +kernel
theorem f86_38 : am_tab 86 38 = some (.aastore, 1, 0, 0, 0, .null) := by decide +kernel
theorem f86_39 : am_tab 86 39 = some (.iinc 1 1, 3, 0, 0, 0, .null) := by decide +kernel
theorem f86_42 : am_tab 86 42 = some (.goto (-21), 3, 21, 0, 0, .null) := by decide +kernel
theorem f86_45 : am_tab 86 45 = some (.return_, 1, 0, 0, 0, .null) := by decide +kernel
theorem f87_0 : am_tab 87 0 = some (.iconst 0, 1, 0, 0, 0, .null) := by decide +kernel
theorem f87_1 : am_tab 87 1 = some (.istore_n 1, 1, 0, 0, 0, .null) := by decide +kernel
theorem f87_2 : am_tab 87 2 = some (.iload_n 1, 1, 0, 0, 0, .null) := by decide +kernel
theorem f87_3 : am_tab 87 3 = some (.iconst 2, 1, 0, 0, 0, .null) := by decide +kernel
theorem f87_4 : am_tab 87 4 = some (.if_icmp .ge 16, 3, 20, 0, 0, .null) := by decide +kernel
theorem f87_7 : am_tab 87 7 = some (.aload_n 0, 1, 0, 0, 0, .null) := by decide +kernel
theorem f87_8 : am_tab 87 8 = some (.getfield 17, 3, 6, 1, 1205, .null) := by decide +kernel
theorem f87_11 : am_tab 87 11 = some (.iload_n 1, 1, 0, 0, 0, .null) := by decide +kernel
theorem f87_12 : am_tab 87 12 = some (.iconst 0, 1, 0, 0, 0, .null) := by decide +kernel
theorem f87_13 : am_tab 87 13 = some (.bastore, 1, 0, 0, 0, .null) := by decide +kernel
theorem f87_14 : am_tab 87 14 = some (.iinc 1 1, 3, 0, 0, 0, .null) := by decide +kernel
theorem f87_17 : am_tab 87 17 = some (.goto (-15), 3, 2, 0, 0, .null) := by decide +kernel
theorem f87_20 : am_tab 87 20 = some (.return_, 1, 0, 0, 0, .null) := by decide +kernel
theorem f88_0 : am_tab 88 0 = some (.iload_n 1, 1, 0, 0, 0, .null) := by decide +kernel
theorem f88_1 : am_tab 88 1 = some (.invokestatic 22, 3, 140, 1, 4239, .int 3) := by decide +kernel
theorem f88_4 : am_tab 88 4 = some (.ifCond .eq 16, 3, 20, 0, 0, .null) := by decide +kernel
theorem f88_7 : am_tab 88 7 = some (.aload_n 0, 1, 0, 0, 0, .null) := by decide +kernel
theorem f88_8 : am_tab 88 8 = some (.getfield 17, 3, 6, 1, 1205, .null) := by decide +kernel
theorem f88_11 : am_tab 88 11 = some (.iload_n 1, 1, 0, 0, 0, .null) := by decide +kernel
theorem f88_12 : am_tab 88 12 = some (.baload, 1, 0, 0, 0, .null) := by decide +kernel
theorem f88_13 : am_tab 88 13 = some (.ifCond .eq 7, 3, 20, 0, 0, .null) := by decide +kernel
theorem f88_16 : am_tab 88 16 = some (.iconst 1, 1, 0, 0, 0, .null) := by decide +kernel
theorem f88_17 : am_tab 88 17 = some (.goto 4, 3, 21, 0, 0, .null) := by decide +kernel
theorem f88_20 : am_tab 88 20 = some (.iconst 0, 1, 0, 0, 0, .null) := by decide +kernel
theorem f88_21 : am_tab 88 21 = some (.ireturn, 1, 0, 0, 0, .null) := by decide +kernel
theorem f89_0 : am_tab 89 0 = some (.iload_n 1, 1, 0, 0, 0, .null) := by decide +kernel
theorem f89_1 : am_tab 89 1 = some (.invokestatic 22, 3, 140, 1, 4239, .int 3) := by decide +kernel
theorem f89_4 : am_tab 89 4 = some (.ifCond .eq 29, 3, 33, 0, 0, .null) := by decide +kernel
theorem f89_7 : am_tab 89 7 = some (.aload_n 0, 1, 0, 0, 0, .null) := by decide +kernel
theorem f89_8 : am_tab 89 8 = some (.getfield 11, 3, 6, 0, 1204, .null) := by decide +kernel
theorem f89_11 : am_tab 89 11 = some (.iload_n 1, 1, 0, 0, 0, .null) := by decide +kernel
theorem f89_12 : am_tab 89 12 = some (.aaload, 1, 0, 0, 0, .null) := by decide +kernel
theorem f89_13 : am_tab 89 13 = some (.ifnull 20, 3, 33, 0, 0, .null) := by decide +kernel
theorem f89_16 : am_tab 89 16 = some (.aload_n 0, 1, 0, 0, 0, .null) := by decide +kernel
theorem f89_17 : am_tab 89 17 = some (.getfield 11, 3, 6, 0, 1204, .null) := by decide +kernel
theorem f89_20 : am_tab 89 20 = some (.iload_n 1, 1, 0, 0, 0, .null) := by decide +kernel
theorem f89_21 : am_tab 89 21 = some (.aaload, 1, 0, 0, 0, .null) := by decide +kernel
theorem f89_22 : am_tab 89 22 = some (.aload_n 2, 1, 0, 0, 0, .null) := by decide +kernel
theorem f89_23 : am_tab 89 23 = some (.invokevirtual 26, 3, 42, 2, 5000, .int 0) := by decide +kernel
theorem f89_26 : am_tab 89 26 = some (.aload_n 0, 1, 0, 0, 0, .null) := by decide +kernel
theorem f89_27 : am_tab 89 27 = some (.getfield 17, 3, 6, 1, 1205, .null) := by decide +kernel
theorem f89_30 : am_tab 89 30 = some (.iload_n 1, 1, 0, 0, 0, .null) := by decide +kernel
theorem f89_31 : am_tab 89 31 = some (.iconst 1, 1, 0, 0, 0, .null) := by decide +kernel
theorem f89_32 : am_tab 89 32 = some (.bastore, 1, 0, 0, 0, .null) := by decide +kernel
theorem f89_33 : am_tab 89 33 = some (.return_, 1, 0, 0, 0, .null) := by decide +kernel
theorem f90_0 : am_tab 90 0 = some (.aload_n 0, 1, 0, 0, 0, .null) := by decide +kernel
theorem f90_1 : am_tab 90 1 = some (.iload_n 1, 1, 0, 0, 0, .null) := by decide +kernel
theorem f90_2 : am_tab 90 2 = some (.invokevirtual 30, 3, 88, 2, 5017, .int 0) := by decide +kernel
theorem f90_5 : am_tab 90 5 = some (.ifCond .eq 22, 3, 27, 0, 0, .null) := by decide +kernel
theorem f90_8 : am_tab 90 8 = some (.aload_n 0, 1, 0, 0, 0, .null) := by decide +kernel
theorem f90_9 : am_tab 90 9 = some (.getfield 11, 3, 6, 0, 1204, .null) := by decide +kernel
theorem f90_12 : am_tab 90 12 = some (.iload_n 1, 1, 0, 0, 0, .null) := by decide +kernel
theorem f90_13 : am_tab 90 13 = some (.aaload, 1, 0, 0, 0, .null) := by decide +kernel
theorem f90_14 : am_tab 90 14 = some (.ifnull 13, 3, 27, 0, 0, .null) := by decide +kernel
theorem f90_17 : am_tab 90 17 = some (.aload_n 2, 1, 0, 0, 0, .null) := by decide +kernel
theorem f90_18 : am_tab 90 18 = some (.aload_n 0, 1, 0, 0, 0, .null) := by decide +kernel
theorem f90_19 : am_tab 90 19 = some (.getfield 11, 3, 6, 0, 1204, .null) := by decide +kernel
theorem f90_22 : am_tab 90 22 = some (.iload_n 1, 1, 0, 0, 0, .null) := by decide +kernel
theorem f90_23 : am_tab 90 23 = some (.aaload, 1, 0, 0, 0, .null) := by decide +kernel
theorem f90_24 : am_tab 90 24 = some (.invokevirtual 26, 3, 42, 2, 5000, .int 0) := by decide +kernel
theorem f90_27 : am_tab 90 27 = some (.return_, 1, 0, 0, 0, .null) := by decide +kernel
theorem f91_0 : am_tab 91 0 = some (.aload_n 0, 1, 0, 0, 0, .null) := by decide +kernel
theorem f91_1 : am_tab 91 1 = some (.invokespecial 3, 3, 0, 0, 1170, .int 6) := by decide +kernel
theorem f91_4 : am_tab 91 4 = some (.aload_n 0, 1, 0, 0, 0, .null) := by decide +kernel
theorem f91_5 : am_tab 91 5 = some (.bipush 75, 2, 0, 0, 0, .null) := by decide +kernel
theorem f91_7 : am_tab 91 7 = some (.newarray .long, 2, 3, 0, 1175, .null) := by decide +kernel
theorem f91_9 : am_tab 91 9 = some (.putfield 11, 3, 7, 0, 1171, .null) := by decide +kernel
theorem f91_12 : am_tab 91 12 = some (.return_, 1, 0, 0, 0, .null) := by decide +kernel
theorem f92_0 : am_tab 92 0 = some (.aload_n 1, 1, 0, 0, 0, .null) := by decide +kernel
theorem f92_1 : am_tab 92 1 = some (.iload_n 2, 1, 0, 0, 0, .null) := by decide +kernel
theorem f92_2 : am_tab 92 2 = some (.invokevirtual 15, 3, 50, 2, 4162, .int 0) := by decide +kernel
theorem f92_5 : am_tab 92 5 = some (.istore 4, 2, 0, 0, 0, .null) := by decide +kernel
theorem f92_7 : am_tab 92 7 = some (.aload_n 1, 1, 0, 0, 0, .null) := by decide +kernel
theorem f92_8 : am_tab 92 8 = some (.iload_n 2, 1, 0, 0, 0, .null) := by decide +kernel
theorem f92_9 : am_tab 92 9 = some (.iconst 1, 1, 0, 0, 0, .null) := by decide +kernel
theorem f92_10 : am_tab 92 10 = some (.iadd, 1, 0, 0, 0, .null) := by decide +kernel
theorem f92_11 : am_tab 92 11 = some (.invokevirtual 15, 3, 50, 2, 4162, .int 0) := by decide +kernel
theorem f92_14 : am_tab 92 14 = some (.istore 5, 2, 0, 0, 0, .null) := by decide +kernel
theorem f92_16 : am_tab 92 16 = some (.iload_n 3, 1, 0, 0, 0, .null) := by decide +kernel
theorem f92_17 : am_tab 92 17 = some (.ifCond .lt 15, 3, 32, 0, 0, .null) := by decide +kernel
theorem f92_20 : am_tab 92 20 = some (.iload_n 3, 1, 0, 0, 0, .null) := by decide +kernel
theorem f92_21 : am_tab 92 21 = some (.aload_n 1, 1, 0, 0, 0, .null) := by decide +kernel
theorem f92_22 : am_tab 92 22 = some (.iload 4, 2, 0, 0, 0, .null) := by decide +kernel
theorem f92_24 : am_tab 92 24 = some (.iload 5, 2, 0, 0, 0, .null) := by decide +kernel
theorem f92_26 : am_tab 92 26 = some (.invokevirtual 21, 3, 52, 3, 4163, .int 0) := by decide +kernel
theorem f92_29 : am_tab 92 29 = some (.if_icmp .le 5, 3, 34, 0, 0, .null) := by decide +kernel
theorem f92_32 : am_tab 92 32 = some (.iconst 0, 1, 0, 0, 0, .null) := by decide +kernel
theorem f92_33 : am_tab 92 33 = some (.ireturn, 1, 0, 0, 0, .null) := by decide +kernel
theorem f92_34 : am_tab 92 34 = some (.iconst 0, 1, 0, 0, 0, .null) := by decide +kernel
theorem f92_35 : am_tab 92 35 = some (.istore 6, 2, 0, 0, 0, .null) := by decide +kernel
theorem f92_37 : am_tab 92 37 = some (.iload 6, 2, 0, 0, 0, .null) := by decide +kernel
theorem f92_39 : am_tab 92 39 = some (.bipush 75, 2, 0, 0, 0, .null) := by decide +kernel
theorem f92_41 : am_tab 92 41 = some (.if_icmp .ge 26, 3, 67, 0, 0, .null) := by decide +kernel
theorem f92_44 : am_tab 92 44 = some (.aload_n 0, 1, 0, 0, 0, .null) := by decide +kernel
theorem f92_45 : am_tab 92 45 = some (.getfield 11, 3, 7, 0, 1171, .null) := by decide +kernel
theorem f92_48 : am_tab 92 48 = some (.iload 6, 2, 0, 0, 0, .null) := by decide +kernel
theorem f92_50 : am_tab 92 50 = some (.iload 6, 2, 0, 0, 0, .null) := by decide +kernel
theorem f92_52 : am_tab 92 52 = some (.ifCond .ne 7, 3, 59, 0, 0, .null) := by decide +kernel
theorem f92_55 : am_tab 92 55 = some (.lconst 1, 1, 0, 0, 0, .null) := by decide +kernel
theorem f92_56 : am_tab 92 56 = some (.goto 4, 3, 60, 0, 0, .null) := by decide +kernel
theorem f92_59 : am_tab 92 59 = some (.lconst 0, 1, 0, 0, 0, .null) := by decide +kernel
theorem f92_60 : am_tab 92 60 = some (.lastore, 1, 0, 0, 0, .null) := by decide +kernel
theorem f92_61 : am_tab 92 61 = some (.iinc 6 1, 3, 0, 0, 0, .null) := by decide +kernel
theorem f92_64 : am_tab 92 64 = some (.goto (-27), 3, 37, 0, 0, .null) := by decide +kernel
theorem f92_67 : am_tab 92 67 = some (.iload 4, 2, 0, 0, 0, .null) := by decide +kernel
theorem f92_69 : am_tab 92 69 = some (.istore 6, 2, 0, 0, 0, .null) := by decide +kernel
theorem f92_71 : am_tab 92 71 = some (.iload 6, 2, 0, 0, 0, .null) := by decide +kernel
theorem f92_73 : am_tab 92 73 = some (.iload 5, 2, 0, 0, 0, .null) := by decide +kernel
theorem f92_75 : am_tab 92 75 = some (.if_icmp .ge 19, 3, 94, 0, 0, .null) := by decide +kernel
theorem f92_78 : am_tab 92 78 = some (.aload_n 0, 1, 0, 0, 0, .null) := by decide +kernel
theorem f92_79 : am_tab 92 79 = some (.aload_n 1, 1, 0, 0, 0, .null) := by decide +kernel
theorem f92_80 : am_tab 92 80 = some (.iload 6, 2, 0, 0, 0, .null) := by decide +kernel
theorem f92_82 : am_tab 92 82 = some (.invokevirtual 25, 3, 43, 2, 4164, .int 0) := by decide +kernel
theorem f92_85 : am_tab 92 85 = some (.invokevirtual 28, 3, 93, 2, 4165, .int 0) := by decide +kernel
theorem f92_88 : am_tab 92 88 = some (.iinc 6 1, 3, 0, 0, 0, .null) := by decide +kernel
theorem f92_91 : am_tab 92 91 = some (.goto (-20), 3, 71, 0, 0, .null) := by decide +kernel
theorem f92_94 : am_tab 92 94 = some (.aload_n 0, 1, 0, 0, 0, .null) := by decide +kernel
theorem f92_95 : am_tab 92 95 = some (.iload_n 3, 1, 0, 0, 0, .null) := by decide +kernel
theorem f92_96 : am_tab 92 96 = some (.bipush 64, 2, 0, 0, 0, .null) := by decide +kernel
theorem f92_98 : am_tab 92 98 = some (.idiv, 1, 0, 0, 0, .null) := by decide +kernel
theorem f92_99 : am_tab 92 99 = some (.invokevirtual 32, 3, 94, 2, 4169, .int 0) := by decide +kernel
theorem f92_102 : am_tab 92 102 = some (.iload_n 3, 1, 0, 0, 0, .null) := by decide +kernel
theorem f92_103 : am_tab 92 103 = some (.bipush 64, 2, 0, 0, 0, .null) := by decide +kernel
theorem f92_105 : am_tab 92 105 = some (.irem, 1, 0, 0, 0, .null) := by decide +kernel
theorem f92_106 : am_tab 92 106 = some (.lushr, 1, 0, 0, 0, .null) := by decide +kernel
theorem f92_107 : am_tab 92 107 = some (.lconst 1, 1, 0, 0, 0, .null) := by decide +kernel
theorem f92_108 : am_tab 92 108 = some (.land, 1, 0, 0, 0, .null) := by decide +kernel
theorem f92_109 : am_tab 92 109 = some (.lconst 1, 1, 0, 0, 0, .null) := by decide +kernel
theorem f92_110 : am_tab 92 110 = some (.lcmp, 1, 0, 0, 0, .null) := by decide +kernel
theorem f92_111 : am_tab 92 111 = some (.ifCond .ne 7, 3, 118, 0, 0, .null) := by decide +kernel
theorem f92_114 : am_tab 92 114 = some (.iconst 1, 1, 0, 0, 0, .null) := by decide +kernel
theorem f92_115 : am_tab 92 115 = some (.goto 4, 3, 119, 0, 0, .null) := by decide +kernel
theorem f92_118 : am_tab 92 118 = some (.iconst 0, 1, 0, 0, 0, .null) := by decide +kernel
theorem f92_119 : am_tab 92 119 = some (.ireturn, 1, 0, 0, 0, .null) := by decide +kernel
theorem f93_0 : am_tab 93 0 = some (.iload_n 1, 1, 0, 0, 0, .null) := by decide +kernel
theorem f93_1 : am_tab 93 1 = some (.bipush 64, 2, 0, 0, 0, .null) := by decide +kernel
theorem f93_3 : am_tab 93 3 = some (.idiv, 1, 0, 0, 0, .null) := by decide +kernel
theorem f93_4 : am_tab 93 4 = some (.istore_n 2, 1, 0, 0, 0, .null) := by decide +kernel
theorem f93_5 : am_tab 93 5 = some (.iload_n 1, 1, 0, 0, 0, .null) := by decide +kernel
theorem f93_6 : am_tab 93 6 = some (.bipush 64, 2, 0, 0, 0, .null) := by decide +kernel
theorem f93_8 : am_tab 93 8 = some (.irem, 1, 0, 0, 0, .null) := by decide +kernel
theorem f93_9 : am_tab 93 9 = some (.istore_n 3, 1, 0, 0, 0, .null) := by decide +kernel
theorem f93_10 : am_tab 93 10 = some (.bipush 74, 2, 0, 0, 0, .null) := by decide +kernel
theorem f93_12 : am_tab 93 12 = some (.istore 4, 2, 0, 0, 0, .null) := by decide +kernel
theorem f93_14 : am_tab 93 14 = some (.iload 4, 2, 0, 0, 0, .null) := by decide +kernel
theorem f93_16 : am_tab 93 16 = some (.ifCond .lt 57, 3, 73, 0, 0, .null) := by decide +kernel
theorem f93_19 : am_tab 93 19 = some (.aload_n 0, 1, 0, 0, 0, .null) := by decide +kernel
theorem f93_20 : am_tab 93 20 = some (.iload 4, 2, 0, 0, 0, .null) := by decide +kernel
theorem f93_22 : am_tab 93 22 = some (.iload_n 2, 1, 0, 0, 0, .null) := by decide +kernel
theorem f93_23 : am_tab 93 23 = some (.isub, 1, 0, 0, 0, .null) := by decide +kernel
theorem f93_24 : am_tab 93 24 = some (.invokevirtual 32, 3, 94, 2, 4169, .int 0) := by decide +kernel
theorem f93_27 : am_tab 93 27 = some (.iload_n 3, 1, 0, 0, 0, .null) := by decide +kernel
theorem f93_28 : am_tab 93 28 = some (.lshl, 1, 0, 0, 0, .null) := by decide +kernel
theorem f93_29 : am_tab 93 29 = some (.lstore 5, 2, 0, 0, 0, .null) := by decide +kernel
theorem f93_31 : am_tab 93 31 = some (.iload_n 3, 1, 0, 0, 0, .null) := by decide +kernel
theorem f93_32 : am_tab 93 32 = some (.ifCond .le 23, 3, 55, 0, 0, .null) := by decide +kernel
theorem f93_35 : am_tab 93 35 = some (.lload 5, 2, 0, 0, 0, .null) := by decide +kernel
theorem f93_37 : am_tab 93 37 = some (.aload_n 0, 1, 0, 0, 0, .null) := by decide +kernel
theorem f93_38 : am_tab 93 38 = some (.iload 4, 2, 0, 0, 0, .null) := by decide +kernel
theorem f93_40 : am_tab 93 40 = some (.iload_n 2, 1, 0, 0, 0, .null) := by decide +kernel
theorem f93_41 : am_tab 93 41 = some (.isub, 1, 0, 0, 0, .null) := by decide +kernel
theorem f93_42 : am_tab 93 42 = some (.iconst 1, 1, 0, 0, 0, .null) := by decide +kernel
theorem f93_43 : am_tab 93 43 = some (.isub, 1, 0, 0, 0, .null) := by decide +kernel
theorem f93_44 : am_tab 93 44 = some (.invokevirtual 32, 3, 94, 2, 4169, .int 0) := by decide +kernel
theorem f93_47 : am_tab 93 47 = some (.bipush 64, 2, 0, 0, 0, .null) := by decide +kernel
theorem f93_49 : am_tab 93 49 = some (.iload_n 3, 1, 0, 0, 0, .null) := by decide +kernel
theorem f93_50 : am_tab 93 50 = some (.isub, 1, 0, 0, 0, .null) := by decide +kernel
theorem f93_51 : am_tab 93 51 = some (.lushr, 1, 0, 0, 0, .null) := by decide +kernel
theorem f93_52 : am_tab 93 52 = some (.lor, 1, 0, 0, 0, .null) := by decide +kernel
theorem f93_53 : am_tab 93 53 = some (.lstore 5, 2, 0, 0, 0, .null) := by decide +kernel
theorem f93_55 : am_tab 93 55 = some (.aload_n 0, 1, 0, 0, 0, .null) := by decide +kernel
theorem f93_56 : am_tab 93 56 = some (.getfield 11, 3, 7, 0, 1171, .null) := by decide +kernel
theorem f93_59 : am_tab 93 59 = some (.iload 4, 2, 0, 0, 0, .null) := by decide +kernel
theorem f93_61 : am_tab 93 61 = some (.dup2, 1, 0, 0, 0, .null) := by decide +kernel
theorem f93_62 : am_tab 93 62 = some (.laload, 1, 0, 0, 0, .null) := by decide +kernel
theorem f93_63 : am_tab 93 63 = some (.lload 5, 2, 0, 0, 0, .null) := by decide +kernel
theorem f93_65 : am_tab 93 65 = some (.lor, 1, 0, 0, 0, .null) := by decide +kernel
theorem f93_66 : am_tab 93 66 = some (.lastore, 1, 0, 0, 0, .null) := by decide +kernel
theorem f93_67 : am_tab 93 67 = some (.iinc 4 (-1), 3, 0, 0, 0, .null) := by decide +kernel
theorem f93_70 : am_tab 93 70 = some (.goto (-56), 3, 14, 0, 0, .null) := by decide +kernel
theorem f93_73 : am_tab 93 73 = some (.return_, 1, 0, 0, 0, .null) := by decide +kernel
theorem f94_0 : am_tab 94 0 = some (.iload_n 1, 1, 0, 0, 0, .null) := by decide +kernel
theorem f94_1 : am_tab 94 1 = some (.ifCond .lt 18, 3, 19, 0, 0, .null) := by decide +kernel
theorem f94_4 : am_tab 94 4 = some (.iload_n 1, 1, 0, 0, 0, .null) := by decide +kernel
theorem f94_5 : am_tab 94 5 = some (.bipush 75, 2, 0, 0, 0, .null) := by decide +kernel
theorem f94_7 : am_tab 94 7 = some (.if_icmp .ge 12, 3, 19, 0, 0, .null) := by decide +kernel
theorem f94_10 : am_tab 94 10 = some (.aload_n 0, 1, 0, 0, 0, .null) := by decide +kernel
theorem f94_11 : am_tab 94 11 = some (.getfield 11, 3, 7, 0, 1171, .null) := by decide +kernel
theorem f94_14 : am_tab 94 14 = some (.iload_n 1, 1, 0, 0, 0, .null) := by decide +kernel
theorem f94_15 : am_tab 94 15 = some (.laload, 1, 0, 0, 0, .null) := by decide +kernel
theorem f94_16 : am_tab 94 16 = some (.goto 4, 3, 20, 0, 0, .null) := by decide +kernel
theorem f94_19 : am_tab 94 19 = some (.lconst 0, 1, 0, 0, 0, .null) := by decide +kernel
theorem f94_20 : am_tab 94 20 = some (.lreturn, 1, 0, 0, 0, .null) := by decide +kernel
theorem f95_0 : am_tab 95 0 = some (.aload_n 0, 1, 0, 0, 0, .null) := by decide +kernel
theorem f95_1 : am_tab 95 1 = some (.invokespecial 3, 3, 0, 0, 1217, .int 6) := by decide +kernel
theorem f95_4 : am_tab 95 4 = some (.aload_n 0, 1, 0, 0, 0, .null) := by decide +kernel
theorem f95_5 : am_tab 95 5 = some (.bipush 120, 2, 0, 0, 0, .null) := by decide +kernel
theorem f95_7 : am_tab 95 7 = some (.newarray .char, 2, 1, 0, 2001, .null) := by decide +kernel
theorem f95_9 : am_tab 95 9 = some (.putfield 9, 3, 8, 0, 1218, .null) := by decide +kernel
theorem f95_12 : am_tab 95 12 = some (.return_, 1, 0, 0, 0, .null) := by decide +kernel
theorem f96_0 : am_tab 96 0 = some (.aload_n 0, 1, 0, 0, 0, .null) := by decide +kernel
theorem f96_1 : am_tab 96 1 = some (.getfield 15, 3, 8, 1, 1219, .null) := by decide +kernel
theorem f96_4 : am_tab 96 4 = some (.bipush 120, 2, 0, 0, 0, .null) := by decide +kernel
theorem f96_6 : am_tab 96 6 = some (.if_icmp .lt 7, 3, 13, 0, 0, .null) := by decide +kernel
theorem f96_9 : am_tab 96 9 = some (.iconst 1, 1, 0, 0, 0, .null) := by decide +kernel
theorem f96_10 : am_tab 96 10 = some (.goto 4, 3, 14, 0, 0, .null) := by decide +kernel
theorem f96_13 : am_tab 96 13 = some (.iconst 0, 1, 0, 0, 0, .null) := by decide +kernel
theorem f96_14 : am_tab 96 14 = some (.ireturn, 1, 0, 0, 0, .null) := by decide +kernel
theorem f97_0 : am_tab 97 0 = some (.aload_n 0, 1, 0, 0, 0, .null) := by decide +kernel
theorem f97_1 : am_tab 97 1 = some (.getfield 15, 3, 8, 1, 1219, .null) := by decide +kernel
theorem f97_4 : am_tab 97 4 = some (.ifCond .lt 32, 3, 36, 0, 0, .null) := by decide +kernel
theorem f97_7 : am_tab 97 7 = some (.aload_n 0, 1, 0, 0, 0, .null) := by decide +kernel
theorem f97_8 : am_tab 97 8 = some (.getfield 15, 3, 8, 1, 1219, .null) := by decide +kernel
theorem f97_11 : am_tab 97 11 = some (.bipush 120, 2, 0, 0, 0, .null) := by decide +kernel
theorem f97_13 : am_tab 97 13 = some (.if_icmp .ge 23, 3, 36, 0, 0, .null) := by decide +kernel
theorem f97_16 : am_tab 97 16 = some (.aload_n 0, 1, 0, 0, 0, .null) := by decide +kernel
theorem f97_17 : am_tab 97 17 = some (.getfield 9, 3, 8, 0, 1218, .null) := by decide +kernel
theorem f97_20 : am_tab 97 20 = some (.aload_n 0, 1, 0, 0, 0, .null) := by decide +kernel
theorem f97_21 : am_tab 97 21 = some (.getfield 15, 3, 8, 1, 1219, .null) := by decide +kernel
theorem f97_24 : am_tab 97 24 = some (.iload_n 1, 1, 0, 0, 0, .null) := by decide +kernel
theorem f97_25 : am_tab 97 25 = some (.castore, 1, 0, 0, 0, .null) := by decide +kernel
theorem f97_26 : am_tab 97 26 = some (.aload_n 0, 1, 0, 0, 0, .null) := by decide +kernel
theorem f97_27 : am_tab 97 27 = some (.dup, 1, 0, 0, 0, .null) := by decide +kernel
theorem f97_28 : am_tab 97 28 = some (.getfield 15, 3, 8, 1, 1219, .null) := by decide +kernel
theorem f97_31 : am_tab 97 31 = some (.iconst 1, 1, 0, 0, 0, .null) := by decide +kernel
theorem f97_32 : am_tab 97 32 = some (.iadd, 1, 0, 0, 0, .null) := by decide +kernel
theorem f97_33 : am_tab 97 33 = some (.putfield 15, 3, 8, 1, 1219, .null) := by decide +kernel
theorem f97_36 : am_tab 97 36 = some (.return_, 1, 0, 0, 0, .null) := by decide +kernel
theorem f98_0 : am_tab 98 0 = some (.aload_n 0, 1, 0, 0, 0, .null) := by decide +kernel
theorem f98_1 : am_tab 98 1 = some (.iconst 0, 1, 0, 0, 0, .null) := by decide +kernel
theorem f98_2 : am_tab 98 2 = some (.putfield 15, 3, 8, 1, 1219, .null) := by decide +kernel
theorem f98_5 : am_tab 98 5 = some (.return_, 1, 0, 0, 0, .null) := by decide +kernel
theorem f99_0 : am_tab 99 0 = some (.aload_n 0, 1, 0, 0, 0, .null) := by decide +kernel
theorem f99_1 : am_tab 99 1 = some (.iconst 1, 1, 0, 0, 0, .null) := by decide +kernel
theorem f99_2 : am_tab 99 2 = some (.putfield 19, 3, 8, 2, 1221, .null) := by decide +kernel
theorem f99_5 : am_tab 99 5 = some (.return_, 1, 0, 0, 0, .null) := by decide +kernel
theorem f100_0 : am_tab 100 0 = some (.aload_n 0, 1, 0, 0, 0, .null) := by decide +kernel
theorem f100_1 : am_tab 100 1 = some (.iconst 0, 1, 0, 0, 0, .null) := by decide +kernel
theorem f100_2 : am_tab 100 2 = some (.invokevirtual 22, 3, 105, 2, 2052, .int 0) := by decide +kernel
theorem f100_5 : am_tab 100 5 = some (.bipush 77, 2, 0, 0, 0, .null) := by decide +kernel
theorem f100_7 : am_tab 100 7 = some (.if_icmp .eq 5, 3, 12, 0, 0, .null) := by decide +kernel
theorem f100_10 : am_tab 100 10 = some (.iconst 0, 1, 0, 0, 0, .null) := by decide +kernel
theorem f100_11 : am_tab 100 11 = some (.ireturn, 1, 0, 0, 0, .null) := by decide +kernel
theorem f100_12 : am_tab 100 12 = some (.aload_n 0, 1, 0, 0, 0, .null) := by decide +kernel
theorem f100_13 : am_tab 100 13 = some (.invokevirtual 26, 3, 99, 1, 2056, .int 0) := by decide +kernel
theorem f100_16 : am_tab 100 16 = some (.iconst 0, 1, 0, 0, 0, .null) := by decide +kernel
theorem f100_17 : am_tab 100 17 = some (.istore_n 1, 1, 0, 0, 0, .null) := by decide +kernel
theorem f100_18 : am_tab 100 18 = some (.iload_n 1, 1, 0, 0, 0, .null) := by decide +kernel
theorem f100_19 : am_tab 100 19 = some (.bipush 120, 2, 0, 0, 0, .null) := by decide +kernel
theorem f100_21 : am_tab 100 21 = some (.if_icmp .ge 32, 3, 53, 0, 0, .null) := by decide +kernel
theorem f100_24 : am_tab 100 24 = some (.aload_n 0, 1, 0, 0, 0, .null) := by decide +kernel
theorem f100_25 : am_tab 100 25 = some (.getfield 19, 3, 8, 2, 1221, .null) := by decide +kernel
theorem f100_28 : am_tab 100 28 = some (.aload_n 0, 1, 0, 0, 0, .null) := by decide +kernel
theorem f100_29 : am_tab 100 29 = some (.getfield 15, 3, 8, 1, 1219, .null) := by decide +kernel
theorem f100_32 : am_tab 100 32 = some (.if_icmp .ge 21, 3, 53, 0, 0, .null) := by decide +kernel
theorem f100_35 : am_tab 100 35 = some (.aload_n 0, 1, 0, 0, 0, .null) := by decide +kernel
theorem f100_36 : am_tab 100 36 = some (.invokevirtual 29, 3, 101, 1, 2060, .int 0) := by decide +kernel
theorem f100_39 : am_tab 100 39 = some (.ifCond .ne 8, 3, 47, 0, 0, .null) := by decide +kernel
theorem f100_42 : am_tab 100 42 = some (.aload_n 0, 1, 0, 0, 0, .null) := by decide +kernel
theorem f100_43 : am_tab 100 43 = some (.getfield 19, 3, 8, 2, 1221, .null) := by decide +kernel
theorem f100_46 : am_tab 100 46 = some (.ireturn, 1, 0, 0, 0, .null) := by decide +kernel
theorem f100_47 : am_tab 100 47 = some (.iinc 1 1, 3, 0, 0, 0, .null) := by decide +kernel
theorem f100_50 : am_tab 100 50 = some (.goto (-32), 3, 18, 0, 0, .null) := by decide +kernel
theorem f100_53 : am_tab 100 53 = some (.iconst (-1), 1, 0, 0, 0, .null) := by decide +kernel
theorem f100_54 : am_tab 100 54 = some (.ireturn, 1, 0, 0, 0, .null) := by decide +kernel
theorem f101_0 : am_tab 101 0 = some (.aload_n 0, 1, 0, 0, 0, .null) := by decide +kernel
theorem f101_1 : am_tab 101 1 = some (.aload_n 0, 1, 0, 0, 0, .null) := by decide +kernel
theorem f101_2 : am_tab 101 2 = some (.aload_n 0, 1, 0, 0, 0, .null) := by decide +kernel
theorem f101_3 : am_tab 101 3 = some (.getfield 19, 3, 8, 2, 1221, .null) := by decide +kernel
theorem f101_6 : am_tab 101 6 = some (.invokevirtual 22, 3, 105, 2, 2052, .int 0) := by decide +kernel
theorem f101_9 : am_tab 101 9 = some (.putfield 33, 3, 8, 3, 1223, .null) := by decide +kernel
theorem f101_12 : am_tab 101 12 = some (.aload_n 0, 1, 0, 0, 0, .null) := by decide +kernel
theorem f101_13 : am_tab 101 13 = some (.dup, 1, 0, 0, 0, .null) := by decide +kernel
theorem f101_14 : am_tab 101 14 = some (.getfield 19, 3, 8, 2, 1221, .null) := by decide +kernel
theorem f101_17 : am_tab 101 17 = some (.iconst 1, 1, 0, 0, 0, .null) := by decide +kernel
theorem f101_18 : am_tab 101 18 = some (.iadd, 1, 0, 0, 0, .null) := by decide +kernel
theorem f101_19 : am_tab 101 19 = some (.putfield 19, 3, 8, 2, 1221, .null) := by decide +kernel
theorem f101_22 : am_tab 101 22 = some (.aload_n 0, 1, 0, 0, 0, .null) := by decide +kernel
theorem f101_23 : am_tab 101 23 = some (.getfield 33, 3, 8, 3, 1223, .null) := by decide +kernel
theorem f101_26 : am_tab 101 26 = some (.tableswitch 198 97 119 #[106, 198, 106, 198, 198, 143, 198, 198, 198, 198, 190, 152, 198, 188, 198, 198, 198, 198, 179, 198, 198, 198, 115], 106, 0, 0, 0, .null) := by decide +kernel
theorem f101_132 : am_tab 101 132 = some (.aload_n 0, 1, 0, 0, 0, .null) := by decide +kernel
theorem f101_133 : am_tab 101 133 = some (.iconst 2, 1, 0, 0, 0, .null) := by decide +kernel
theorem f101_134 : am_tab 101 134 = some (.iconst 0, 1, 0, 0, 0, .null) := by decide +kernel
theorem f101_135 : am_tab 101 135 = some (.bipush 47, 2, 0, 0, 0, .null) := by decide +kernel
theorem f101_137 : am_tab 101 137 = some (.invokevirtual 36, 3, 102, 4, 2064, .int 0) := by decide +kernel
theorem f101_140 : am_tab 101 140 = some (.ireturn, 1, 0, 0, 0, .null) := by decide +kernel
theorem f101_141 : am_tab 101 141 = some (.aload_n 0, 1, 0, 0, 0, .null) := by decide +kernel
theorem f101_142 : am_tab 101 142 = some (.iconst 2, 1, 0, 0, 0, .null) := by decide +kernel
theorem f101_143 : am_tab 101 143 = some (.iconst 0, 1, 0, 0, 0, .null) := by decide +kernel
theorem f101_144 : am_tab 101 144 = some (.bipush 47, 2, 0, 0, 0, .null) := by decide +kernel
theorem f101_146 : am_tab 101 146 = some (.invokevirtual 36, 3, 102, 4, 2064, .int 0) := by decide +kernel
theorem f101_149 : am_tab 101 149 = some (.ifCond .eq 18, 3, 167, 0, 0, .null) := by decide +kernel
theorem f101_152 : am_tab 101 152 = some (.aload_n 0, 1, 0, 0, 0, .null) := by decide +kernel
theorem f101_153 : am_tab 101 153 = some (.iconst 2, 1, 0, 0, 0, .null) := by decide +kernel
theorem f101_154 : am_tab 101 154 = some (.iconst 1, 1, 0, 0, 0, .null) := by decide +kernel
theorem f101_155 : am_tab 101 155 = some (.bipush 99, 2, 0, 0, 0, .null) := by decide +kernel
theorem f101_157 : am_tab 101 157 = some (.invokevirtual 40, 3, 103, 4, 2072, .int 0) := by decide +kernel
theorem f101_160 : am_tab 101 160 = some (.ifCond .eq 7, 3, 167, 0, 0, .null) := by decide +kernel
theorem f101_163 : am_tab 101 163 = some (.iconst 1, 1, 0, 0, 0, .null) := by decide +kernel
theorem f101_164 : am_tab 101 164 = some (.goto 4, 3, 168, 0, 0, .null) := by decide +kernel
theorem f101_167 : am_tab 101 167 = some (.iconst 0, 1, 0, 0, 0, .null) := by decide +kernel
theorem f101_168 : am_tab 101 168 = some (.ireturn, 1, 0, 0, 0, .null) := by decide +kernel
theorem f101_169 : am_tab 101 169 = some (.aload_n 0, 1, 0, 0, 0, .null) := by decide +kernel
theorem f101_170 : am_tab 101 170 = some (.iconst 2, 1, 0, 0, 0, .null) := by decide +kernel
theorem f101_171 : am_tab 101 171 = some (.iconst 1, 1, 0, 0, 0, .null) := by decide +kernel
theorem f101_172 : am_tab 101 172 = some (.bipush 47, 2, 0, 0, 0, .null) := by decide +kernel
theorem f101_174 : am_tab 101 174 = some (.invokevirtual 36, 3, 102, 4, 2064, .int 0) := by decide +kernel
theorem f101_177 : am_tab 101 177 = some (.ireturn, 1, 0, 0, 0, .null) := by decide +kernel
theorem f101_178 : am_tab 101 178 = some (.aload_n 0, 1, 0, 0, 0, .null) := by decide +kernel
theorem f101_179 : am_tab 101 179 = some (.iconst 2, 1, 0, 0, 0, .null) := by decide +kernel
theorem f101_180 : am_tab 101 180 = some (.iconst 0, 1, 0, 0, 0, .null) := by decide +kernel
theorem f101_181 : am_tab 101 181 = some (.bipush 11, 2, 0, 0, 0, .null) := by decide +kernel
theorem f101_183 : am_tab 101 183 = some (.invokevirtual 36, 3, 102, 4, 2064, .int 0) := by decide +kernel
theorem f101_186 : am_tab 101 186 = some (.ifCond .eq 17, 3, 203, 0, 0, .null) := by decide +kernel
theorem f101_189 : am_tab 101 189 = some (.aload_n 0, 1, 0, 0, 0, .null) := by decide +kernel
theorem f101_190 : am_tab 101 190 = some (.iconst 1, 1, 0, 0, 0, .null) := by decide +kernel
theorem f101_191 : am_tab 101 191 = some (.iconst 0, 1, 0, 0, 0, .null) := by decide +kernel
theorem f101_192 : am_tab 101 192 = some (.iconst 4, 1, 0, 0, 0, .null) := by decide +kernel
theorem f101_193 : am_tab 101 193 = some (.invokevirtual 40, 3, 103, 4, 2072, .int 0) := by decide +kernel
theorem f101_196 : am_tab 101 196 = some (.ifCond .eq 7, 3, 203, 0, 0, .null) := by decide +kernel
theorem f101_199 : am_tab 101 199 = some (.iconst 1, 1, 0, 0, 0, .null) := by decide +kernel
theorem f101_200 : am_tab 101 200 = some (.goto 4, 3, 204, 0, 0, .null) := by decide +kernel
theorem f101_203 : am_tab 101 203 = some (.iconst 0, 1, 0, 0, 0, .null) := by decide +kernel
theorem f101_204 : am_tab 101 204 = some (.ireturn, 1, 0, 0, 0, .null) := by decide +kernel
theorem f101_205 : am_tab 101 205 = some (.aload_n 0, 1, 0, 0, 0, .null) := by decide +kernel
theorem f101_206 : am_tab 101 206 = some (.iconst 2, 1, 0, 0, 0, .null) := by decide +kernel
theorem f101_207 : am_tab 101 207 = some (.iconst 1, 1, 0, 0, 0, .null) := by decide +kernel
theorem f101_208 : am_tab 101 208 = some (.bipush 11, 2, 0, 0, 0, .null) := by decide +kernel
theorem f101_210 : am_tab 101 210 = some (.invokevirtual 36, 3, 102, 4, 2064, .int 0) := by decide +kernel
theorem f101_213 : am_tab 101 213 = some (.ireturn, 1, 0, 0, 0, .null) := by decide +kernel
theorem f101_214 : am_tab 101 214 = some (.iconst 1, 1, 0, 0, 0, .null) := by decide +kernel
theorem f101_215 : am_tab 101 215 = some (.ireturn, 1, 0, 0, 0, .null) := by decide +kernel
theorem f101_216 : am_tab 101 216 = some (.aload_n 0, 1, 0, 0, 0, .null) := by decide +kernel
theorem f101_217 : am_tab 101 217 = some (.iconst 1, 1, 0, 0, 0, .null) := by decide +kernel
theorem f101_218 : am_tab 101 218 = some (.iconst 0, 1, 0, 0, 0, .null) := by decide +kernel
theorem f101_219 : am_tab 101 219 = some (.iconst 2, 1, 0, 0, 0, .null) := by decide +kernel
theorem f101_220 : am_tab 101 220 = some (.invokevirtual 36, 3, 102, 4, 2064, .int 0) := by decide +kernel
theorem f101_223 : am_tab 101 223 = some (.ireturn, 1, 0, 0, 0, .null) := by decide +kernel
theorem f101_224 : am_tab 101 224 = some (.aload_n 0, 1, 0, 0, 0, .null) := by decide +kernel
theorem f101_225 : am_tab 101 225 = some (.dup, 1, 0, 0, 0, .null) := by decide +kernel
theorem f101_226 : am_tab 101 226 = some (.getfield 19, 3, 8, 2, 1221, .null) := by decide +kernel
theorem f101_229 : am_tab 101 229 = some (.iconst 1, 1, 0, 0, 0, .null) := by decide +kernel
theorem f101_230 : am_tab 101 230 = some (.isub, 1, 0, 0, 0, .null) := by decide +kernel
theorem f101_231 : am_tab 101 231 = some (.putfield 19, 3, 8, 2, 1221, .null) := by decide +kernel
theorem f101_234 : am_tab 101 234 = some (.iconst 0, 1, 0, 0, 0, .null) := by decide +kernel
theorem f101_235 : am_tab 101 235 = some (.ireturn, 1, 0, 0, 0, .null) := by decide +kernel
theorem f102_0 : am_tab 102 0 = some (.aload_n 0, 1, 0, 0, 0, .null) := by decide +kernel
theorem f102_1 : am_tab 102 1 = some (.aload_n 0, 1, 0, 0, 0, .null) := by decide +kernel
theorem f102_2 : am_tab 102 2 = some (.iload_n 1, 1, 0, 0, 0, .null) := by decide +kernel
theorem f102_3 : am_tab 102 3 = some (.iload_n 2, 1, 0, 0, 0, .null) := by decide +kernel
theorem f102_4 : am_tab 102 4 = some (.iload_n 3, 1, 0, 0, 0, .null) := by decide +kernel
theorem f102_5 : am_tab 102 5 = some (.invokevirtual 43, 3, 104, 4, 2068, .int 0) := by decide +kernel
theorem f102_8 : am_tab 102 8 = some (.putfield 47, 3, 8, 4, 1225, .null) := by decide +kernel
theorem f102_11 : am_tab 102 11 = some (.aload_n 0, 1, 0, 0, 0, .null) := by decide +kernel
theorem f102_12 : am_tab 102 12 = some (.getfield 47, 3, 8, 4, 1225, .null) := by decide +kernel
theorem f102_15 : am_tab 102 15 = some (.iconst (-1), 1, 0, 0, 0, .null) := by decide +kernel
theorem f102_16 : am_tab 102 16 = some (.if_icmp .eq 7, 3, 23, 0, 0, .null) := by decide +kernel
theorem f102_19 : am_tab 102 19 = some (.iconst 1, 1, 0, 0, 0, .null) := by decide +kernel
theorem f102_20 : am_tab 102 20 = some (.goto 4, 3, 24, 0, 0, .null) := by decide +kernel
theorem f102_23 : am_tab 102 23 = some (.iconst 0, 1, 0, 0, 0, .null) := by decide +kernel
theorem f102_24 : am_tab 102 24 = some (.ireturn, 1, 0, 0, 0, .null) := by decide +kernel
theorem f103_0 : am_tab 103 0 = some (.aload_n 0, 1, 0, 0, 0, .null) := by decide +kernel
theorem f103_1 : am_tab 103 1 = some (.aload_n 0, 1, 0, 0, 0, .null) := by decide +kernel
theorem f103_2 : am_tab 103 2 = some (.iload_n 1, 1, 0, 0, 0, .null) := by decide +kernel
theorem f103_3 : am_tab 103 3 = some (.iload_n 2, 1, 0, 0, 0, .null) := by decide +kernel
theorem f103_4 : am_tab 103 4 = some (.iload_n 3, 1, 0, 0, 0, .null) := by decide +kernel
theorem f103_5 : am_tab 103 5 = some (.invokevirtual 43, 3, 104, 4, 2068, .int 0) := by decide +kernel
theorem f103_8 : am_tab 103 8 = some (.putfield 50, 3, 8, 5, 1227, .null) := by decide +kernel
theorem f103_11 : am_tab 103 11 = some (.aload_n 0, 1, 0, 0, 0, .null) := by decide +kernel
theorem f103_12 : am_tab 103 12 = some (.getfield 50, 3, 8, 5, 1227, .null) := by decide +kernel
theorem f103_15 : am_tab 103 15 = some (.iconst (-1), 1, 0, 0, 0, .null) := by decide +kernel
theorem f103_16 : am_tab 103 16 = some (.if_icmp .eq 7, 3, 23, 0, 0, .null) := by decide +kernel
theorem f103_19 : am_tab 103 19 = some (.iconst 1, 1, 0, 0, 0, .null) := by decide +kernel
theorem f103_20 : am_tab 103 20 = some (.goto 4, 3, 24, 0, 0, .null) := by decide +kernel
theorem f103_23 : am_tab 103 23 = some (.iconst 0, 1, 0, 0, 0, .null) := by decide +kernel
theorem f103_24 : am_tab 103 24 = some (.ireturn, 1, 0, 0, 0, .null) := by decide +kernel
theorem f104_0 : am_tab 104 0 = some (.iconst 0, 1, 0, 0, 0, .null) := by decide +kernel
theorem f104_1 : am_tab 104 1 = some (.istore 4, 2, 0, 0, 0, .null) := by decide +kernel
theorem f104_3 : am_tab 104 3 = some (.iload_n 1, 1, 0, 0, 0, .null) := by decide +kernel
theorem f104_4 : am_tab 104 4 = some (.iconst 1, 1, 0, 0, 0, .null) := by decide +kernel
theorem f104_5 : am_tab 104 5 = some (.isub, 1, 0, 0, 0, .null) := by decide +kernel
theorem f104_6 : am_tab 104 6 = some (.istore 5, 2, 0, 0, 0, .null) := by decide +kernel
theorem f104_8 : am_tab 104 8 = some (.iload 5, 2, 0, 0, 0, .null) := by decide +kernel
theorem f104_10 : am_tab 104 10 = some (.ifCond .lt 109, 3, 119, 0, 0, .null) := by decide +kernel
theorem f104_13 : am_tab 104 13 = some (.aload_n 0, 1, 0, 0, 0, .null) := by decide +kernel
theorem f104_14 : am_tab 104 14 = some (.aload_n 0, 1, 0, 0, 0, .null) := by decide +kernel
theorem f104_15 : am_tab 104 15 = some (.getfield 19, 3, 8, 2, 1221, .null) := by decide +kernel
theorem f104_18 : am_tab 104 18 = some (.invokevirtual 22, 3, 105, 2, 2052, .int 0) := by decide +kernel
theorem f104_21 : am_tab 104 21 = some (.istore 6, 2, 0, 0, 0, .null) := by decide +kernel
theorem f104_23 : am_tab 104 23 = some (.iload 6, 2, 0, 0, 0, .null) := by decide +kernel
theorem f104_25 : am_tab 104 25 = some (.bipush 48, 2, 0, 0, 0, .null) := by decide +kernel
theorem f104_27 : am_tab 104 27 = some (.if_icmp .lt 10, 3, 37, 0, 0, .null) := by decide +kernel
theorem f104_30 : am_tab 104 30 = some (.iload 6, 2, 0, 0, 0, .null) := by decide +kernel
theorem f104_32 : am_tab 104 32 = some (.bipush 57, 2, 0, 0, 0, .null) := by decide +kernel
theorem f104_34 : am_tab 104 34 = some (.if_icmp .le 5, 3, 39, 0, 0, .null) := by decide +kernel
theorem f104_37 : am_tab 104 37 = some (.iconst (-1), 1, 0, 0, 0, .null) := by decide +kernel
theorem f104_38 : am_tab 104 38 = some (.ireturn, 1, 0, 0, 0, .null) := by decide +kernel
theorem f104_39 : am_tab 104 39 = some (.bipush 10, 2, 0, 0, 0, .null) := by decide +kernel
theorem f104_41 : am_tab 104 41 = some (.iload 4, 2, 0, 0, 0, .null) := by decide +kernel
theorem f104_43 : am_tab 104 43 = some (.imul, 1, 0, 0, 0, .null) := by decide +kernel
theorem f104_44 : am_tab 104 44 = some (.iload 6, 2, 0, 0, 0, .null) := by decide +kernel
theorem f104_46 : am_tab 104 46 = some (.iadd, 1, 0, 0, 0, .null) := by decide +kernel
theorem f104_47 : am_tab 104 47 = some (.bipush 48, 2, 0, 0, 0, .null) := by decide +kernel
theorem f104_49 : am_tab 104 49 = some (.isub, 1, 0, 0, 0, .null) := by decide +kernel
theorem f104_50 : am_tab 104 50 = some (.istore 4, 2, 0, 0, 0, .null) := by decide +kernel
theorem f104_52 : am_tab 104 52 = some (.iload 5, 2, 0, 0, 0, .null) := by decide +kernel
theorem f104_54 : am_tab 104 54 = some (.ifCond .ne 8, 3, 62, 0, 0, .null) := by decide +kernel
theorem f104_57 : am_tab 104 57 = some (.iload 4, 2, 0, 0, 0, .null) := by decide +kernel
theorem f104_59 : am_tab 104 59 = some (.goto 8, 3, 67, 0, 0, .null) := by decide +kernel
theorem f104_62 : am_tab 104 62 = some (.bipush 10, 2, 0, 0, 0, .null) := by decide +kernel
theorem f104_64 : am_tab 104 64 = some (.iload 4, 2, 0, 0, 0, .null) := by decide +kernel
theorem f104_66 : am_tab 104 66 = some (.imul, 1, 0, 0, 0, .null) := by decide +kernel
theorem f104_67 : am_tab 104 67 = some (.istore 7, 2, 0, 0, 0, .null) := by decide +kernel
theorem f104_69 : am_tab 104 69 = some (.iload 5, 2, 0, 0, 0, .null) := by decide +kernel
theorem f104_71 : am_tab 104 71 = some (.ifCond .ne 8, 3, 79, 0, 0, .null) := by decide +kernel
theorem f104_74 : am_tab 104 74 = some (.iload 4, 2, 0, 0, 0, .null) := by decide +kernel
theorem f104_76 : am_tab 104 76 = some (.goto 11, 3, 87, 0, 0, .null) := by decide +kernel
theorem f104_79 : am_tab 104 79 = some (.bipush 10, 2, 0, 0, 0, .null) := by decide +kernel
theorem f104_81 : am_tab 104 81 = some (.iload 4, 2, 0, 0, 0, .null) := by decide +kernel
theorem f104_83 : am_tab 104 83 = some (.imul, 1, 0, 0, 0, .null) := by decide +kernel
theorem f104_84 : am_tab 104 84 = some (.bipush 9, 2, 0, 0, 0, .null) := by decide +kernel
theorem f104_86 : am_tab 104 86 = some (.iadd, 1, 0, 0, 0, .null) := by decide +kernel
theorem f104_87 : am_tab 104 87 = some (.istore 8, 2, 0, 0, 0, .null) := by decide +kernel
theorem f104_89 : am_tab 104 89 = some (.iload 8, 2, 0, 0, 0, .null) := by decide +kernel
theorem f104_91 : am_tab 104 91 = some (.iload_n 2, 1, 0, 0, 0, .null) := by decide +kernel
theorem f104_92 : am_tab 104 92 = some (.if_icmp .lt 9, 3, 101, 0, 0, .null) := by decide +kernel
theorem f104_95 : am_tab 104 95 = some (.iload 7, 2, 0, 0, 0, .null) := by decide +kernel
theorem f104_97 : am_tab 104 97 = some (.iload_n 3, 1, 0, 0, 0, .null) := by decide +kernel
theorem f104_98 : am_tab 104 98 = some (.if_icmp .le 5, 3, 103, 0, 0, .null) := by decide +kernel
theorem f104_101 : am_tab 104 101 = some (.iconst (-1), 1, 0, 0, 0, .null) := by decide +kernel
theorem f104_102 : am_tab 104 102 = some (.ireturn, 1, 0, 0, 0, .null) := by decide +kernel
theorem f104_103 : am_tab 104 103 = some (.aload_n 0, 1, 0, 0, 0, .null) := by decide +kernel
theorem f104_104 : am_tab 104 104 = some (.dup, 1, 0, 0, 0, .null) := by decide +kernel
theorem f104_105 : am_tab 104 105 = some (.getfield 19, 3, 8, 2, 1221, .null) := by decide +kernel
theorem f104_108 : am_tab 104 108 = some (.iconst 1, 1, 0, 0, 0, .null) := by decide +kernel
theorem f104_109 : am_tab 104 109 = some (.iadd, 1, 0, 0, 0, .null) := by decide +kernel
theorem f104_110 : am_tab 104 110 = some (.putfield 19, 3, 8, 2, 1221, .null) := by decide +kernel
theorem f104_113 : am_tab 104 113 = some (.iinc 5 (-1), 3, 0, 0, 0, .null) := by decide +kernel
theorem f104_116 : am_tab 104 116 = some (.goto (-108), 3, 8, 0, 0, .null) := by decide +kernel
theorem f104_119 : am_tab 104 119 = some (.iload 4, 2, 0, 0, 0, .null) := by decide +kernel
theorem f104_121 : am_tab 104 121 = some (.ireturn, 1, 0, 0, 0, .null) := by decide +kernel
theorem f105_0 : am_tab 105 0 = some (.iload_n 1, 1, 0, 0, 0, .null) := by decide +kernel
theorem f105_1 : am_tab 105 1 = some (.ifCond .lt 26, 3, 27, 0, 0, .null) := by decide +kernel
theorem f105_4 : am_tab 105 4 = some (.iload_n 1, 1, 0, 0, 0, .null) := by decide +kernel
theorem f105_5 : am_tab 105 5 = some (.aload_n 0, 1, 0, 0, 0, .null) := by decide +kernel
theorem f105_6 : am_tab 105 6 = some (.getfield 15, 3, 8, 1, 1219, .null) := by decide +kernel
theorem f105_9 : am_tab 105 9 = some (.if_icmp .ge 18, 3, 27, 0, 0, .null) := by decide +kernel
theorem f105_12 : am_tab 105 12 = some (.iload_n 1, 1, 0, 0, 0, .null) := by decide +kernel
theorem f105_13 : am_tab 105 13 = some (.bipush 120, 2, 0, 0, 0, .null) := by decide +kernel
theorem f105_15 : am_tab 105 15 = some (.if_icmp .ge 12, 3, 27, 0, 0, .null) := by decide +kernel
theorem f105_18 : am_tab 105 18 = some (.aload_n 0, 1, 0, 0, 0, .null) := by decide +kernel
theorem f105_19 : am_tab 105 19 = some (.getfield 9, 3, 8, 0, 1218, .null) := by decide +kernel
theorem f105_22 : am_tab 105 22 = some (.iload_n 1, 1, 0, 0, 0, .null) := by decide +kernel
theorem f105_23 : am_tab 105 23 = some (.caload, 1, 0, 0, 0, .null) := by decide +kernel
theorem f105_24 : am_tab 105 24 = some (.goto 4, 3, 28, 0, 0, .null) := by decide +kernel
theorem f105_27 : am_tab 105 27 = some (.iconst (-1), 1, 0, 0, 0, .null) := by decide +kernel
theorem f105_28 : am_tab 105 28 = some (.ireturn, 1, 0, 0, 0, .null) := by decide +kernel
theorem f106_0 : am_tab 106 0 = some (.aload_n 0, 1, 0, 0, 0, .null) := by decide +kernel
theorem f106_1 : am_tab 106 1 = some (.invokespecial 1, 3, 0, 0, 1028, .int 6) := by decide +kernel
theorem f106_4 : am_tab 106 4 = some (.aload_n 0, 1, 0, 0, 0, .null) := by decide +kernel
theorem f106_5 : am_tab 106 5 = some (.new 7, 3, 1, 2, 1031, .null) := by decide +kernel
theorem f106_8 : am_tab 106 8 = some (.dup, 1, 0, 0, 0, .null) := by decide +kernel
theorem f106_9 : am_tab 106 9 = some (.invokespecial 9, 3, 27, 1, 1033, .int 5) := by decide +kernel
theorem f106_12 : am_tab 106 12 = some (.putfield 10, 3, 9, 0, 2002, .null) := by decide +kernel
theorem f106_15 : am_tab 106 15 = some (.aload_n 0, 1, 0, 0, 0, .null) := by decide +kernel
theorem f106_16 : am_tab 106 16 = some (.aload_n 0, 1, 0, 0, 0, .null) := by decide +kernel
theorem f106_17 : am_tab 106 17 = some (.getfield 10, 3, 9, 0, 2002, .null) := by decide +kernel
theorem f106_20 : am_tab 106 20 = some (.getfield 16, 3, 1, 0, 1128, .int 1) := by decide +kernel
theorem f106_23 : am_tab 106 23 = some (.putfield 20, 3, 9, 1, 2003, .null) := by decide +kernel
theorem f106_26 : am_tab 106 26 = some (.aload_n 0, 1, 0, 0, 0, .null) := by decide +kernel
theorem f106_27 : am_tab 106 27 = some (.new 7, 3, 1, 2, 1031, .null) := by decide +kernel
theorem f106_30 : am_tab 106 30 = some (.dup, 1, 0, 0, 0, .null) := by decide +kernel
theorem f106_31 : am_tab 106 31 = some (.invokespecial 9, 3, 27, 1, 1033, .int 5) := by decide +kernel
theorem f106_34 : am_tab 106 34 = some (.putfield 23, 3, 9, 2, 2004, .null) := by decide +kernel
theorem f106_37 : am_tab 106 37 = some (.aload_n 0, 1, 0, 0, 0, .null) := by decide +kernel
theorem f106_38 : am_tab 106 38 = some (.aload_n 0, 1, 0, 0, 0, .null) := by decide +kernel
theorem f106_39 : am_tab 106 39 = some (.getfield 23, 3, 9, 2, 2004, .null) := by decide +kernel
theorem f106_42 : am_tab 106 42 = some (.getfield 16, 3, 1, 0, 1128, .int 1) := by decide +kernel
theorem f106_45 : am_tab 106 45 = some (.putfield 26, 3, 9, 3, 2005, .null) := by decide +kernel
theorem f106_48 : am_tab 106 48 = some (.aload_n 0, 1, 0, 0, 0, .null) := by decide +kernel
theorem f106_49 : am_tab 106 49 = some (.new 29, 3, 3, 12, 1138, .null) := by decide +kernel
theorem f106_52 : am_tab 106 52 = some (.dup, 1, 0, 0, 0, .null) := by decide +kernel
theorem f106_53 : am_tab 106 53 = some (.invokespecial 31, 3, 41, 1, 1139, .int 4) := by decide +kernel
theorem f106_56 : am_tab 106 56 = some (.putfield 32, 3, 9, 4, 2006, .null) := by decide +kernel
theorem f106_59 : am_tab 106 59 = some (.aload_n 0, 1, 0, 0, 0, .null) := by decide +kernel
theorem f106_60 : am_tab 106 60 = some (.new 35, 3, 5, 4, 1140, .null) := by decide +kernel
theorem f106_63 : am_tab 106 63 = some (.dup, 1, 0, 0, 0, .null) := by decide +kernel
theorem f106_64 : am_tab 106 64 = some (.invokespecial 37, 3, 80, 1, 1141, .int 5) := by decide +kernel
theorem f106_67 : am_tab 106 67 = some (.putfield 38, 3, 9, 5, 2007, .null) := by decide +kernel
theorem f106_70 : am_tab 106 70 = some (.aload_n 0, 1, 0, 0, 0, .null) := by decide +kernel
theorem f106_71 : am_tab 106 71 = some (.new 42, 3, 4, 4, 1142, .null) := by decide +kernel
theorem f106_74 : am_tab 106 74 = some (.dup, 1, 0, 0, 0, .null) := by decide +kernel
theorem f106_75 : am_tab 106 75 = some (.invokespecial 44, 3, 69, 1, 1144, .int 5) := by decide +kernel
theorem f106_78 : am_tab 106 78 = some (.putfield 45, 3, 9, 6, 2008, .null) := by decide +kernel
theorem f106_81 : am_tab 106 81 = some (.aload_n 0, 1, 0, 0, 0, .null) := by decide +kernel
theorem f106_82 : am_tab 106 82 = some (.new 49, 3, 7, 1, 1165, .null) := by decide +kernel
theorem f106_85 : am_tab 106 85 = some (.dup, 1, 0, 0, 0, .null) := by decide +kernel
theorem f106_86 : am_tab 106 86 = some (.invokespecial 51, 3, 91, 1, 1167, .int 5) := by decide +kernel
theorem f106_89 : am_tab 106 89 = some (.putfield 52, 3, 9, 7, 2009, .null) := by decide +kernel
theorem f106_92 : am_tab 106 92 = some (.aload_n 0, 1, 0, 0, 0, .null) := by decide +kernel
theorem f106_93 : am_tab 106 93 = some (.new 56, 3, 2, 3, 1176, .null) := by decide +kernel
theorem f106_96 : am_tab 106 96 = some (.dup, 1, 0, 0, 0, .null) := by decide +kernel
theorem f106_97 : am_tab 106 97 = some (.invokespecial 58, 3, 36, 1, 1178, .int 4) := by decide +kernel
theorem f106_100 : am_tab 106 100 = some (.putfield 59, 3, 9, 8, 2010, .null) := by decide +kernel
theorem f106_103 : am_tab 106 103 = some (.aload_n 0, 1, 0, 0, 0, .null) := by decide +kernel
theorem f106_104 : am_tab 106 104 = some (.new 63, 3, 6, 2, 1196, .null) := by decide +kernel
theorem f106_107 : am_tab 106 107 = some (.dup, 1, 0, 0, 0, .null) := by decide +kernel
theorem f106_108 : am_tab 106 108 = some (.invokespecial 65, 3, 86, 1, 1198, .int 4) := by decide +kernel
theorem f106_111 : am_tab 106 111 = some (.putfield 66, 3, 9, 9, 2011, .null) := by decide +kernel
theorem f106_114 : am_tab 106 114 = some (.aload_n 0, 1, 0, 0, 0, .null) := by decide +kernel
theorem f106_115 : am_tab 106 115 = some (.new 70, 3, 8, 6, 1212, .null) := by decide +kernel
theorem f106_118 : am_tab 106 118 = some (.dup, 1, 0, 0, 0, .null) := by decide +kernel
theorem f106_119 : am_tab 106 119 = some (.invokespecial 72, 3, 95, 1, 1214, .int 5) := by decide +kernel
theorem f106_122 : am_tab 106 122 = some (.putfield 73, 3, 9, 10, 2012, .null) := by decide +kernel
theorem f106_125 : am_tab 106 125 = some (.return_, 1, 0, 0, 0, .null) := by decide +kernel
theorem f107_0 : am_tab 107 0 = some (.iload_n 1, 1, 0, 0, 0, .null) := by decide +kernel
theorem f107_1 : am_tab 107 1 = some (.ifCond .lt 10, 3, 11, 0, 0, .null) := by decide +kernel
theorem f107_4 : am_tab 107 4 = some (.iload_n 1, 1, 0, 0, 0, .null) := by decide +kernel
theorem f107_5 : am_tab 107 5 = some (.sipush 255, 3, 0, 0, 0, .null) := by decide +kernel
theorem f107_8 : am_tab 107 8 = some (.if_icmp .le 13, 3, 21, 0, 0, .null) := by decide +kernel
theorem f107_11 : am_tab 107 11 = some (.athrow, 0, 0, 0, 0, .null) := by decide +kernel
theorem f107_21 : am_tab 107 21 = some (.aload_n 0, 1, 0, 0, 0, .null) := by decide +kernel
theorem f107_22 : am_tab 107 22 = some (.getfield 73, 3, 9, 10, 2012, .null) := by decide +kernel
theorem f107_25 : am_tab 107 25 = some (.invokevirtual 84, 3, 96, 1, 3036, .int 0) := by decide +kernel
theorem f107_28 : am_tab 107 28 = some (.ifCond .eq 13, 3, 41, 0, 0, .null) := by decide +kernel
theorem f107_31 : am_tab 107 31 = some (.athrow, 0, 1, 0, 1, .null) := by decide +kernel
theorem f107_41 : am_tab 107 41 = some (.aload_n 0, 1, 0, 0, 0, .null) := by decide +kernel
theorem f107_42 : am_tab 107 42 = some (.getfield 73, 3, 9, 10, 2012, .null) := by decide +kernel
theorem f107_45 : am_tab 107 45 = some (.iload_n 1, 1, 0, 0, 0, .null) := by decide +kernel
theorem f107_46 : am_tab 107 46 = some (.i2c, 1, 0, 0, 0, .null) := by decide +kernel
theorem f107_47 : am_tab 107 47 = some (.invokevirtual 93, 3, 97, 2, 3056, .int 0) := by decide +kernel
theorem f107_50 : am_tab 107 50 = some (.aload_n 0, 1, 0, 0, 0, .null) := by decide +kernel
theorem f107_51 : am_tab 107 51 = some (.getfield 73, 3, 9, 10, 2012, .null) := by decide +kernel
theorem f107_54 : am_tab 107 54 = some (.getfield 97, 3, 8, 1, 1220, .int 1) := by decide +kernel
theorem f107_57 : am_tab 107 57 = some (.ireturn, 1, 0, 0, 0, .null) := by decide +kernel
theorem f108_0 : am_tab 108 0 = some (.aload_n 0, 1, 0, 0, 0, .null) := by decide +kernel
theorem f108_1 : am_tab 108 1 = some (.getfield 73, 3, 9, 10, 2012, .null) := by decide +kernel
theorem f108_4 : am_tab 108 4 = some (.getfield 97, 3, 8, 1, 1220, .int 1) := by decide +kernel
theorem f108_7 : am_tab 108 7 = some (.istore_n 1, 1, 0, 0, 0, .null) := by decide +kernel
theorem f108_8 : am_tab 108 8 = some (.aload_n 0, 1, 0, 0, 0, .null) := by decide +kernel
theorem f108_9 : am_tab 108 9 = some (.getfield 73, 3, 9, 10, 2012, .null) := by decide +kernel
theorem f108_12 : am_tab 108 12 = some (.invokevirtual 101, 3, 98, 1, 2040, .int 0) := by decide +kernel
theorem f108_15 : am_tab 108 15 = some (.iload_n 1, 1, 0, 0, 0, .null) := by decide +kernel
theorem f108_16 : am_tab 108 16 = some (.ireturn, 1, 0, 0, 0, .null) := by decide +kernel
theorem f109_0 : am_tab 109 0 = some (.aload_n 0, 1, 0, 0, 0, .null) := by decide +kernel
theorem f109_1 : am_tab 109 1 = some (.getfield 73, 3, 9, 10, 2012, .null) := by decide +kernel
theorem f109_4 : am_tab 109 4 = some (.invokevirtual 104, 3, 100, 1, 2048, .int 0) := by decide +kernel
theorem f109_7 : am_tab 109 7 = some (.ireturn, 1, 0, 0, 0, .null) := by decide +kernel
theorem f110_0 : am_tab 110 0 = some (.aload_n 0, 1, 0, 0, 0, .null) := by decide +kernel
theorem f110_1 : am_tab 110 1 = some (.getfield 73, 3, 9, 10, 2012, .null) := by decide +kernel
theorem f110_4 : am_tab 110 4 = some (.invokevirtual 104, 3, 100, 1, 2048, .int 0) := by decide +kernel
theorem f110_7 : am_tab 110 7 = some (.iconst (-1), 1, 0, 0, 0, .null) := by decide +kernel
theorem f110_8 : am_tab 110 8 = some (.if_icmp .eq 13, 3, 21, 0, 0, .null) := by decide +kernel
theorem f110_11 : am_tab 110 11 = some (.athrow, 0, 1, 0, 2, .null) := by decide +kernel
theorem f110_21 : am_tab 110 21 = some (.aload_n 0, 1, 0, 0, 0, .null) := by decide +kernel
theorem f110_22 : am_tab 110 22 = some (.getfield 20, 3, 9, 1, 2003, .null) := by decide +kernel
theorem f110_25 : am_tab 110 25 = some (.aload_n 0, 1, 0, 0, 0, .null) := by decide +kernel
theorem f110_26 : am_tab 110 26 = some (.getfield 32, 3, 9, 4, 2006, .null) := by decide +kernel
theorem f110_29 : am_tab 110 29 = some (.invokevirtual 110, 3, 42, 2, 3068, .int 0) := by decide +kernel
theorem f110_32 : am_tab 110 32 = some (.aload_n 0, 1, 0, 0, 0, .null) := by decide +kernel
theorem f110_33 : am_tab 110 33 = some (.getfield 59, 3, 9, 8, 2010, .null) := by decide +kernel
theorem f110_36 : am_tab 110 36 = some (.invokevirtual 114, 3, 37, 1, 3069, .int 0) := by decide +kernel
theorem f110_39 : am_tab 110 39 = some (.aload_n 0, 1, 0, 0, 0, .null) := by decide +kernel
theorem f110_40 : am_tab 110 40 = some (.getfield 66, 3, 9, 9, 2011, .null) := by decide +kernel
theorem f110_43 : am_tab 110 43 = some (.invokevirtual 117, 3, 87, 1, 3073, .int 0) := by decide +kernel
theorem f110_46 : am_tab 110 46 = some (.iconst 0, 1, 0, 0, 0, .null) := by decide +kernel
theorem f110_47 : am_tab 110 47 = some (.istore_n 1, 1, 0, 0, 0, .null) := by decide +kernel
theorem f110_48 : am_tab 110 48 = some (.aload_n 0, 1, 0, 0, 0, .null) := by decide +kernel
theorem f110_49 : am_tab 110 49 = some (.getfield 73, 3, 9, 10, 2012, .null) := by decide +kernel
theorem f110_52 : am_tab 110 52 = some (.invokevirtual 120, 3, 99, 1, 3077, .int 0) := by decide +kernel
theorem f110_55 : am_tab 110 55 = some (.iconst 0, 1, 0, 0, 0, .null) := by decide +kernel
theorem f110_56 : am_tab 110 56 = some (.istore_n 2, 1, 0, 0, 0, .null) := by decide +kernel
theorem f110_57 : am_tab 110 57 = some (.iload_n 2, 1, 0, 0, 0, .null) := by decide +kernel
theorem f110_58 : am_tab 110 58 = some (.bipush 120, 2, 0, 0, 0, .null) := by decide +kernel
theorem f110_60 : am_tab 110 60 = some (.if_icmp .ge 53, 3, 113, 0, 0, .null) := by decide +kernel
theorem f110_63 : am_tab 110 63 = some (.aload_n 0, 1, 0, 0, 0, .null) := by decide +kernel
theorem f110_64 : am_tab 110 64 = some (.getfield 73, 3, 9, 10, 2012, .null) := by decide +kernel
theorem f110_67 : am_tab 110 67 = some (.invokevirtual 123, 3, 101, 1, 3078, .int 0) := by decide +kernel
theorem f110_70 : am_tab 110 70 = some (.ifCond .eq 43, 3, 113, 0, 0, .null) := by decide +kernel
theorem f110_73 : am_tab 110 73 = some (.aload_n 0, 1, 0, 0, 0, .null) := by decide +kernel
theorem f110_74 : am_tab 110 74 = some (.getfield 10, 3, 9, 0, 2002, .null) := by decide +kernel
theorem f110_77 : am_tab 110 77 = some (.aload_n 0, 1, 0, 0, 0, .null) := by decide +kernel
theorem f110_78 : am_tab 110 78 = some (.getfield 73, 3, 9, 10, 2012, .null) := by decide +kernel
theorem f110_81 : am_tab 110 81 = some (.getfield 126, 3, 8, 3, 1222, .int 1) := by decide +kernel
theorem f110_84 : am_tab 110 84 = some (.aload_n 0, 1, 0, 0, 0, .null) := by decide +kernel
theorem f110_85 : am_tab 110 85 = some (.getfield 73, 3, 9, 10, 2012, .null) := by decide +kernel
theorem f110_88 : am_tab 110 88 = some (.getfield 129, 3, 8, 4, 1224, .int 1) := by decide +kernel
theorem f110_91 : am_tab 110 91 = some (.aload_n 0, 1, 0, 0, 0, .null) := by decide +kernel
theorem f110_92 : am_tab 110 92 = some (.getfield 73, 3, 9, 10, 2012, .null) := by decide +kernel
theorem f110_95 : am_tab 110 95 = some (.getfield 132, 3, 8, 5, 1226, .int 1) := by decide +kernel
theorem f110_98 : am_tab 110 98 = some (.invokevirtual 135, 3, 28, 4, 3079, .int 0) := by decide +kernel
theorem f110_101 : am_tab 110 101 = some (.ifCond .ne 6, 3, 107, 0, 0, .null) := by decide +kernel
theorem f110_104 : am_tab 110 104 = some (.iinc 1 1, 3, 0, 0, 0, .null) := by decide +kernel
theorem f110_107 : am_tab 110 107 = some (.iinc 2 1, 3, 0, 0, 0, .null) := by decide +kernel
theorem f110_110 : am_tab 110 110 = some (.goto (-53), 3, 57, 0, 0, .null) := by decide +kernel
theorem f110_113 : am_tab 110 113 = some (.iload_n 1, 1, 0, 0, 0, .null) := by decide +kernel
theorem f110_114 : am_tab 110 114 = some (.ireturn, 1, 0, 0, 0, .null) := by decide +kernel
theorem f111_0 : am_tab 111 0 = some (.iload_n 1, 1, 0, 0, 0, .null) := by decide +kernel
theorem f111_1 : am_tab 111 1 = some (.tableswitch 167 0 10 #[59, 67, 78, 89, 100, 116, 124, 135, 143, 151, 159], 59, 0, 0, 0, .null) := by decide +kernel
theorem f111_60 : am_tab 111 60 = some (.aload_n 0, 1, 0, 0, 0, .null) := by decide +kernel
theorem f111_61 : am_tab 111 61 = some (.getfield 20, 3, 9, 1, 2003, .null) := by decide +kernel
theorem f111_64 : am_tab 111 64 = some (.invokevirtual 139, 3, 48, 1, 2194, .int 0) := by decide +kernel
theorem f111_67 : am_tab 111 67 = some (.ireturn, 1, 0, 0, 0, .null) := by decide +kernel
theorem f111_68 : am_tab 111 68 = some (.aload_n 0, 1, 0, 0, 0, .null) := by decide +kernel
theorem f111_69 : am_tab 111 69 = some (.getfield 20, 3, 9, 1, 2003, .null) := by decide +kernel
theorem f111_72 : am_tab 111 72 = some (.getfield 142, 3, 3, 5, 1050, .int 1) := by decide +kernel
theorem f111_75 : am_tab 111 75 = some (.invokestatic 146, 3, 231, 1, 3188, .int 2) := by decide +kernel
theorem f111_78 : am_tab 111 78 = some (.ireturn, 1, 0, 0, 0, .null) := by decide +kernel
theorem f111_79 : am_tab 111 79 = some (.aload_n 0, 1, 0, 0, 0, .null) := by decide +kernel
theorem f111_80 : am_tab 111 80 = some (.getfield 20, 3, 9, 1, 2003, .null) := by decide +kernel
theorem f111_83 : am_tab 111 83 = some (.iconst 0, 1, 0, 0, 0, .null) := by decide +kernel
theorem f111_84 : am_tab 111 84 = some (.bipush 48, 2, 0, 0, 0, .null) := by decide +kernel
theorem f111_86 : am_tab 111 86 = some (.invokevirtual 152, 3, 52, 3, 3189, .int 0) := by decide +kernel
theorem f111_89 : am_tab 111 89 = some (.ireturn, 1, 0, 0, 0, .null) := by decide +kernel
theorem f111_90 : am_tab 111 90 = some (.aload_n 0, 1, 0, 0, 0, .null) := by decide +kernel
theorem f111_91 : am_tab 111 91 = some (.getfield 20, 3, 9, 1, 2003, .null) := by decide +kernel
theorem f111_94 : am_tab 111 94 = some (.iconst 0, 1, 0, 0, 0, .null) := by decide +kernel
theorem f111_95 : am_tab 111 95 = some (.bipush 48, 2, 0, 0, 0, .null) := by decide +kernel
theorem f111_97 : am_tab 111 97 = some (.invokevirtual 156, 3, 53, 3, 2197, .int 0) := by decide +kernel
theorem f111_100 : am_tab 111 100 = some (.ireturn, 1, 0, 0, 0, .null) := by decide +kernel
theorem f111_101 : am_tab 111 101 = some (.aload_n 0, 1, 0, 0, 0, .null) := by decide +kernel
theorem f111_102 : am_tab 111 102 = some (.getfield 20, 3, 9, 1, 2003, .null) := by decide +kernel
theorem f111_105 : am_tab 111 105 = some (.getfield 159, 3, 3, 7, 1055, .int 1) := by decide +kernel
theorem f111_108 : am_tab 111 108 = some (.ifCond .eq 7, 3, 115, 0, 0, .null) := by decide +kernel
theorem f111_111 : am_tab 111 111 = some (.iconst 1, 1, 0, 0, 0, .null) := by decide +kernel
theorem f111_112 : am_tab 111 112 = some (.goto 4, 3, 116, 0, 0, .null) := by decide +kernel
theorem f111_115 : am_tab 111 115 = some (.iconst 0, 1, 0, 0, 0, .null) := by decide +kernel
theorem f111_116 : am_tab 111 116 = some (.ireturn, 1, 0, 0, 0, .null) := by decide +kernel
theorem f111_117 : am_tab 111 117 = some (.aload_n 0, 1, 0, 0, 0, .null) := by decide +kernel
theorem f111_118 : am_tab 111 118 = some (.getfield 20, 3, 9, 1, 2003, .null) := by decide +kernel
theorem f111_121 : am_tab 111 121 = some (.getfield 163, 3, 3, 9, 1062, .int 1) := by decide +kernel
theorem f111_124 : am_tab 111 124 = some (.ireturn, 1, 0, 0, 0, .null) := by decide +kernel
theorem f111_125 : am_tab 111 125 = some (.aload_n 0, 1, 0, 0, 0, .null) := by decide +kernel
theorem f111_126 : am_tab 111 126 = some (.getfield 20, 3, 9, 1, 2003, .null) := by decide +kernel
theorem f111_129 : am_tab 111 129 = some (.getfield 166, 3, 3, 6, 1053, .int 1) := by decide +kernel
theorem f111_132 : am_tab 111 132 = some (.invokestatic 146, 3, 231, 1, 3188, .int 2) := by decide +kernel
theorem f111_135 : am_tab 111 135 = some (.ireturn, 1, 0, 0, 0, .null) := by decide +kernel
theorem f111_136 : am_tab 111 136 = some (.aload_n 0, 1, 0, 0, 0, .null) := by decide +kernel
theorem f111_137 : am_tab 111 137 = some (.getfield 20, 3, 9, 1, 2003, .null) := by decide +kernel
theorem f111_140 : am_tab 111 140 = some (.getfield 169, 3, 3, 10, 1064, .int 1) := by decide +kernel
theorem f111_143 : am_tab 111 143 = some (.ireturn, 1, 0, 0, 0, .null) := by decide +kernel
theorem f111_144 : am_tab 111 144 = some (.aload_n 0, 1, 0, 0, 0, .null) := by decide +kernel
theorem f111_145 : am_tab 111 145 = some (.getfield 20, 3, 9, 1, 2003, .null) := by decide +kernel
theorem f111_148 : am_tab 111 148 = some (.getfield 172, 3, 3, 11, 1067, .int 1) := by decide +kernel
theorem f111_151 : am_tab 111 151 = some (.ireturn, 1, 0, 0, 0, .null) := by decide +kernel
theorem f111_152 : am_tab 111 152 = some (.aload_n 0, 1, 0, 0, 0, .null) := by decide +kernel
theorem f111_153 : am_tab 111 153 = some (.getfield 20, 3, 9, 1, 2003, .null) := by decide +kernel
theorem f111_156 : am_tab 111 156 = some (.getfield 175, 3, 3, 8, 1059, .int 1) := by decide +kernel
theorem f111_159 : am_tab 111 159 = some (.ireturn, 1, 0, 0, 0, .null) := by decide +kernel
theorem f111_160 : am_tab 111 160 = some (.aload_n 0, 1, 0, 0, 0, .null) := by decide +kernel
theorem f111_161 : am_tab 111 161 = some (.getfield 20, 3, 9, 1, 2003, .null) := by decide +kernel
theorem f111_164 : am_tab 111 164 = some (.invokevirtual 178, 3, 54, 1, 3190, .int 0) := by decide +kernel
theorem f111_167 : am_tab 111 167 = some (.ireturn, 1, 0, 0, 0, .null) := by decide +kernel
theorem f111_168 : am_tab 111 168 = some (.athrow, 0, 0, 0, 3, .null) := by decide +kernel
theorem f112_0 : am_tab 112 0 = some (.iload_n 1, 1, 0, 0, 0, .null) := by decide +kernel
theorem f112_1 : am_tab 112 1 = some (.invokestatic 183, 3, 134, 1, 3203, .int 2) := by decide +kernel
theorem f112_4 : am_tab 112 4 = some (.ifCond .ne 13, 3, 17, 0, 0, .null) := by decide +kernel
theorem f112_7 : am_tab 112 7 = some (.athrow, 0, 2, 0, 4, .null) := by decide +kernel
theorem f112_17 : am_tab 112 17 = some (.iload_n 2, 1, 0, 0, 0, .null) := by decide +kernel
theorem f112_18 : am_tab 112 18 = some (.tableswitch 85 0 4 #[34, 43, 55, 64, 73], 34, 0, 0, 0, .null) := by decide +kernel
theorem f112_52 : am_tab 112 52 = some (.aload_n 0, 1, 0, 0, 0, .null) := by decide +kernel
theorem f112_53 : am_tab 112 53 = some (.getfield 20, 3, 9, 1, 2003, .null) := by decide +kernel
theorem f112_56 : am_tab 112 56 = some (.iload_n 1, 1, 0, 0, 0, .null) := by decide +kernel
theorem f112_57 : am_tab 112 57 = some (.invokevirtual 192, 3, 43, 2, 3220, .int 0) := by decide +kernel
theorem f112_60 : am_tab 112 60 = some (.ireturn, 1, 0, 0, 0, .null) := by decide +kernel
theorem f112_61 : am_tab 112 61 = some (.aload_n 0, 1, 0, 0, 0, .null) := by decide +kernel
theorem f112_62 : am_tab 112 62 = some (.getfield 20, 3, 9, 1, 2003, .null) := by decide +kernel
theorem f112_65 : am_tab 112 65 = some (.getfield 142, 3, 3, 5, 1050, .int 1) := by decide +kernel
theorem f112_68 : am_tab 112 68 = some (.iload_n 1, 1, 0, 0, 0, .null) := by decide +kernel
theorem f112_69 : am_tab 112 69 = some (.invokestatic 196, 3, 141, 2, 3221, .int 2) := by decide +kernel
theorem f112_72 : am_tab 112 72 = some (.ireturn, 1, 0, 0, 0, .null) := by decide +kernel
theorem f112_73 : am_tab 112 73 = some (.aload_n 0, 1, 0, 0, 0, .null) := by decide +kernel
theorem f112_74 : am_tab 112 74 = some (.getfield 20, 3, 9, 1, 2003, .null) := by decide +kernel
theorem f112_77 : am_tab 112 77 = some (.iload_n 1, 1, 0, 0, 0, .null) := by decide +kernel
theorem f112_78 : am_tab 112 78 = some (.invokevirtual 200, 3, 44, 2, 3222, .int 0) := by decide +kernel
theorem f112_81 : am_tab 112 81 = some (.ireturn, 1, 0, 0, 0, .null) := by decide +kernel
theorem f112_82 : am_tab 112 82 = some (.aload_n 0, 1, 0, 0, 0, .null) := by decide +kernel
theorem f112_83 : am_tab 112 83 = some (.getfield 20, 3, 9, 1, 2003, .null) := by decide +kernel
theorem f112_86 : am_tab 112 86 = some (.iload_n 1, 1, 0, 0, 0, .null) := by decide +kernel
theorem f112_87 : am_tab 112 87 = some (.invokevirtual 203, 3, 51, 2, 3223, .int 0) := by decide +kernel
theorem f112_90 : am_tab 112 90 = some (.ireturn, 1, 0, 0, 0, .null) := by decide +kernel
theorem f112_91 : am_tab 112 91 = some (.aload_n 0, 1, 0, 0, 0, .null) := by decide +kernel
theorem f112_92 : am_tab 112 92 = some (.getfield 20, 3, 9, 1, 2003, .null) := by decide +kernel
theorem f112_95 : am_tab 112 95 = some (.getfield 166, 3, 3, 6, 1053, .int 1) := by decide +kernel
theorem f112_98 : am_tab 112 98 = some (.iload_n 1, 1, 0, 0, 0, .null) := by decide +kernel
theorem f112_99 : am_tab 112 99 = some (.invokestatic 196, 3, 141, 2, 3221, .int 2) := by decide +kernel
theorem f112_102 : am_tab 112 102 = some (.ireturn, 1, 0, 0, 0, .null) := by decide +kernel
theorem f112_103 : am_tab 112 103 = some (.athrow, 0, 0, 0, 5, .null) := by decide +kernel
theorem f113_0 : am_tab 113 0 = some (.aload_n 0, 1, 0, 0, 0, .null) := by decide +kernel
theorem f113_1 : am_tab 113 1 = some (.getfield 20, 3, 9, 1, 2003, .null) := by decide +kernel
theorem f113_4 : am_tab 113 4 = some (.iload_n 1, 1, 0, 0, 0, .null) := by decide +kernel
theorem f113_5 : am_tab 113 5 = some (.invokevirtual 208, 3, 49, 2, 3236, .int 0) := by decide +kernel
theorem f113_8 : am_tab 113 8 = some (.ifCond .ne 13, 3, 21, 0, 0, .null) := by decide +kernel
theorem f113_11 : am_tab 113 11 = some (.athrow, 0, 2, 0, 6, .null) := by decide +kernel
theorem f113_21 : am_tab 113 21 = some (.aload_n 0, 1, 0, 0, 0, .null) := by decide +kernel
theorem f113_22 : am_tab 113 22 = some (.getfield 20, 3, 9, 1, 2003, .null) := by decide +kernel
theorem f113_25 : am_tab 113 25 = some (.iload_n 1, 1, 0, 0, 0, .null) := by decide +kernel
theorem f113_26 : am_tab 113 26 = some (.invokevirtual 213, 3, 50, 2, 2196, .int 0) := by decide +kernel
theorem f113_29 : am_tab 113 29 = some (.istore_n 3, 1, 0, 0, 0, .null) := by decide +kernel
theorem f113_30 : am_tab 113 30 = some (.aload_n 0, 1, 0, 0, 0, .null) := by decide +kernel
theorem f113_31 : am_tab 113 31 = some (.getfield 20, 3, 9, 1, 2003, .null) := by decide +kernel
theorem f113_34 : am_tab 113 34 = some (.iload_n 1, 1, 0, 0, 0, .null) := by decide +kernel
theorem f113_35 : am_tab 113 35 = some (.iconst 1, 1, 0, 0, 0, .null) := by decide +kernel
theorem f113_36 : am_tab 113 36 = some (.iadd, 1, 0, 0, 0, .null) := by decide +kernel
theorem f113_37 : am_tab 113 37 = some (.invokevirtual 213, 3, 50, 2, 2196, .int 0) := by decide +kernel
theorem f113_40 : am_tab 113 40 = some (.istore 4, 2, 0, 0, 0, .null) := by decide +kernel
theorem f113_42 : am_tab 113 42 = some (.iload_n 2, 1, 0, 0, 0, .null) := by decide +kernel
theorem f113_43 : am_tab 113 43 = some (.tableswitch 104 0 5 #[37, 39, 44, 55, 66, 75], 37, 0, 0, 0, .null) := by decide +kernel
theorem f113_80 : am_tab 113 80 = some (.iload_n 3, 1, 0, 0, 0, .null) := by decide +kernel
theorem f113_81 : am_tab 113 81 = some (.ireturn, 1, 0, 0, 0, .null) := by decide +kernel
theorem f113_82 : am_tab 113 82 = some (.iload 4, 2, 0, 0, 0, .null) := by decide +kernel
theorem f113_84 : am_tab 113 84 = some (.iload_n 3, 1, 0, 0, 0, .null) := by decide +kernel
theorem f113_85 : am_tab 113 85 = some (.isub, 1, 0, 0, 0, .null) := by decide +kernel
theorem f113_86 : am_tab 113 86 = some (.ireturn, 1, 0, 0, 0, .null) := by decide +kernel
theorem f113_87 : am_tab 113 87 = some (.aload_n 0, 1, 0, 0, 0, .null) := by decide +kernel
theorem f113_88 : am_tab 113 88 = some (.getfield 20, 3, 9, 1, 2003, .null) := by decide +kernel
theorem f113_91 : am_tab 113 91 = some (.iload_n 3, 1, 0, 0, 0, .null) := by decide +kernel
theorem f113_92 : am_tab 113 92 = some (.iload 4, 2, 0, 0, 0, .null) := by decide +kernel
theorem f113_94 : am_tab 113 94 = some (.invokevirtual 152, 3, 52, 3, 3189, .int 0) := by decide +kernel
theorem f113_97 : am_tab 113 97 = some (.ireturn, 1, 0, 0, 0, .null) := by decide +kernel
theorem f113_98 : am_tab 113 98 = some (.aload_n 0, 1, 0, 0, 0, .null) := by decide +kernel
theorem f113_99 : am_tab 113 99 = some (.getfield 20, 3, 9, 1, 2003, .null) := by decide +kernel
theorem f113_102 : am_tab 113 102 = some (.iload_n 3, 1, 0, 0, 0, .null) := by decide +kernel
theorem f113_103 : am_tab 113 103 = some (.iload 4, 2, 0, 0, 0, .null) := by decide +kernel
theorem f113_105 : am_tab 113 105 = some (.invokevirtual 156, 3, 53, 3, 2197, .int 0) := by decide +kernel
theorem f113_108 : am_tab 113 108 = some (.ireturn, 1, 0, 0, 0, .null) := by decide +kernel
theorem f113_109 : am_tab 113 109 = some (.aload_n 0, 1, 0, 0, 0, .null) := by decide +kernel
theorem f113_110 : am_tab 113 110 = some (.getfield 20, 3, 9, 1, 2003, .null) := by decide +kernel
theorem f113_113 : am_tab 113 113 = some (.iload_n 1, 1, 0, 0, 0, .null) := by decide +kernel
theorem f113_114 : am_tab 113 114 = some (.invokevirtual 216, 3, 46, 2, 3238, .int 0) := by decide +kernel
theorem f113_117 : am_tab 113 117 = some (.ireturn, 1, 0, 0, 0, .null) := by decide +kernel
theorem f113_118 : am_tab 113 118 = some (.aload_n 0, 1, 0, 0, 0, .null) := by decide +kernel
theorem f113_119 : am_tab 113 119 = some (.getfield 20, 3, 9, 1, 2003, .null) := by decide +kernel
theorem f113_122 : am_tab 113 122 = some (.getfield 159, 3, 3, 7, 1055, .int 1) := by decide +kernel
theorem f113_125 : am_tab 113 125 = some (.ifCond .ne 13, 3, 138, 0, 0, .null) := by decide +kernel
theorem f113_128 : am_tab 113 128 = some (.athrow, 0, 1, 0, 7, .null) := by decide +kernel
theorem f113_138 : am_tab 113 138 = some (.aload_n 0, 1, 0, 0, 0, .null) := by decide +kernel
theorem f113_139 : am_tab 113 139 = some (.getfield 20, 3, 9, 1, 2003, .null) := by decide +kernel
theorem f113_142 : am_tab 113 142 = some (.iload_n 1, 1, 0, 0, 0, .null) := by decide +kernel
theorem f113_143 : am_tab 113 143 = some (.invokevirtual 221, 3, 47, 2, 2195, .int 0) := by decide +kernel
theorem f113_146 : am_tab 113 146 = some (.ireturn, 1, 0, 0, 0, .null) := by decide +kernel
theorem f113_147 : am_tab 113 147 = some (.athrow, 0, 0, 0, 8, .null) := by decide +kernel
theorem f114_0 : am_tab 114 0 = some (.iload_n 1, 1, 0, 0, 0, .null) := by decide +kernel
theorem f114_1 : am_tab 114 1 = some (.invokestatic 183, 3, 134, 1, 3203, .int 2) := by decide +kernel
theorem f114_4 : am_tab 114 4 = some (.ifCond .ne 13, 3, 17, 0, 0, .null) := by decide +kernel
theorem f114_7 : am_tab 114 7 = some (.athrow, 0, 2, 0, 9, .null) := by decide +kernel
theorem f114_17 : am_tab 114 17 = some (.iload_n 2, 1, 0, 0, 0, .null) := by decide +kernel
theorem f114_18 : am_tab 114 18 = some (.invokestatic 226, 3, 136, 1, 4011, .int 2) := by decide +kernel
theorem f114_21 : am_tab 114 21 = some (.ifCond .ne 13, 3, 34, 0, 0, .null) := by decide +kernel
theorem f114_24 : am_tab 114 24 = some (.athrow, 0, 0, 0, 10, .null) := by decide +kernel
theorem f114_34 : am_tab 114 34 = some (.aload_n 0, 1, 0, 0, 0, .null) := by decide +kernel
theorem f114_35 : am_tab 114 35 = some (.getfield 59, 3, 9, 8, 2010, .null) := by decide +kernel
theorem f114_38 : am_tab 114 38 = some (.aload_n 0, 1, 0, 0, 0, .null) := by decide +kernel
theorem f114_39 : am_tab 114 39 = some (.getfield 20, 3, 9, 1, 2003, .null) := by decide +kernel
theorem f114_42 : am_tab 114 42 = some (.invokevirtual 231, 3, 38, 2, 2080, .int 0) := by decide +kernel
theorem f114_45 : am_tab 114 45 = some (.aload_n 0, 1, 0, 0, 0, .null) := by decide +kernel
theorem f114_46 : am_tab 114 46 = some (.getfield 20, 3, 9, 1, 2003, .null) := by decide +kernel
theorem f114_49 : am_tab 114 49 = some (.iload_n 1, 1, 0, 0, 0, .null) := by decide +kernel
theorem f114_50 : am_tab 114 50 = some (.invokevirtual 192, 3, 43, 2, 3220, .int 0) := by decide +kernel
theorem f114_53 : am_tab 114 53 = some (.istore_n 3, 1, 0, 0, 0, .null) := by decide +kernel
theorem f114_54 : am_tab 114 54 = some (.aload_n 0, 1, 0, 0, 0, .null) := by decide +kernel
theorem f114_55 : am_tab 114 55 = some (.getfield 20, 3, 9, 1, 2003, .null) := by decide +kernel
theorem f114_58 : am_tab 114 58 = some (.iload_n 1, 1, 0, 0, 0, .null) := by decide +kernel
theorem f114_59 : am_tab 114 59 = some (.iload_n 2, 1, 0, 0, 0, .null) := by decide +kernel
theorem f114_60 : am_tab 114 60 = some (.invokevirtual 234, 3, 58, 3, 4013, .int 0) := by decide +kernel
theorem f114_63 : am_tab 114 63 = some (.iload_n 3, 1, 0, 0, 0, .null) := by decide +kernel
theorem f114_64 : am_tab 114 64 = some (.ireturn, 1, 0, 0, 0, .null) := by decide +kernel
theorem f115_0 : am_tab 115 0 = some (.iload_n 1, 1, 0, 0, 0, .null) := by decide +kernel
theorem f115_1 : am_tab 115 1 = some (.invokestatic 183, 3, 134, 1, 3203, .int 2) := by decide +kernel
theorem f115_4 : am_tab 115 4 = some (.ifCond .ne 13, 3, 17, 0, 0, .null) := by decide +kernel
theorem f115_7 : am_tab 115 7 = some (.athrow, 0, 2, 0, 11, .null) := by decide +kernel
theorem f115_17 : am_tab 115 17 = some (.aload_n 0, 1, 0, 0, 0, .null) := by decide +kernel
theorem f115_18 : am_tab 115 18 = some (.getfield 59, 3, 9, 8, 2010, .null) := by decide +kernel
theorem f115_21 : am_tab 115 21 = some (.aload_n 0, 1, 0, 0, 0, .null) := by decide +kernel
theorem f115_22 : am_tab 115 22 = some (.getfield 20, 3, 9, 1, 2003, .null) := by decide +kernel
theorem f115_25 : am_tab 115 25 = some (.invokevirtual 231, 3, 38, 2, 2080, .int 0) := by decide +kernel
theorem f115_28 : am_tab 115 28 = some (.aload_n 0, 1, 0, 0, 0, .null) := by decide +kernel
theorem f115_29 : am_tab 115 29 = some (.getfield 20, 3, 9, 1, 2003, .null) := by decide +kernel
theorem f115_32 : am_tab 115 32 = some (.iload_n 1, 1, 0, 0, 0, .null) := by decide +kernel
theorem f115_33 : am_tab 115 33 = some (.iload_n 2, 1, 0, 0, 0, .null) := by decide +kernel
theorem f115_34 : am_tab 115 34 = some (.invokevirtual 238, 3, 59, 3, 4021, .int 0) := by decide +kernel
theorem f115_37 : am_tab 115 37 = some (.aload_n 0, 1, 0, 0, 0, .null) := by decide +kernel
theorem f115_38 : am_tab 115 38 = some (.getfield 20, 3, 9, 1, 2003, .null) := by decide +kernel
theorem f115_41 : am_tab 115 41 = some (.getfield 142, 3, 3, 5, 1050, .int 1) := by decide +kernel
theorem f115_44 : am_tab 115 44 = some (.invokestatic 146, 3, 231, 1, 3188, .int 2) := by decide +kernel
theorem f115_47 : am_tab 115 47 = some (.ireturn, 1, 0, 0, 0, .null) := by decide +kernel
theorem f116_0 : am_tab 116 0 = some (.iload_n 1, 1, 0, 0, 0, .null) := by decide +kernel
theorem f116_1 : am_tab 116 1 = some (.invokestatic 242, 3, 135, 1, 4029, .int 2) := by decide +kernel
theorem f116_4 : am_tab 116 4 = some (.ifCond .ne 13, 3, 17, 0, 0, .null) := by decide +kernel
theorem f116_7 : am_tab 116 7 = some (.athrow, 0, 2, 0, 12, .null) := by decide +kernel
theorem f116_17 : am_tab 116 17 = some (.aload_n 0, 1, 0, 0, 0, .null) := by decide +kernel
theorem f116_18 : am_tab 116 18 = some (.getfield 20, 3, 9, 1, 2003, .null) := by decide +kernel
theorem f116_21 : am_tab 116 21 = some (.iload_n 1, 1, 0, 0, 0, .null) := by decide +kernel
theorem f116_22 : am_tab 116 22 = some (.iload_n 2, 1, 0, 0, 0, .null) := by decide +kernel
theorem f116_23 : am_tab 116 23 = some (.invokevirtual 247, 3, 57, 3, 4031, .int 0) := by decide +kernel
theorem f116_26 : am_tab 116 26 = some (.ifCond .ne 13, 3, 39, 0, 0, .null) := by decide +kernel
theorem f116_29 : am_tab 116 29 = some (.athrow, 0, 1, 0, 13, .null) := by decide +kernel
theorem f116_39 : am_tab 116 39 = some (.aload_n 0, 1, 0, 0, 0, .null) := by decide +kernel
theorem f116_40 : am_tab 116 40 = some (.getfield 59, 3, 9, 8, 2010, .null) := by decide +kernel
theorem f116_43 : am_tab 116 43 = some (.aload_n 0, 1, 0, 0, 0, .null) := by decide +kernel
theorem f116_44 : am_tab 116 44 = some (.getfield 20, 3, 9, 1, 2003, .null) := by decide +kernel
theorem f116_47 : am_tab 116 47 = some (.invokevirtual 231, 3, 38, 2, 2080, .int 0) := by decide +kernel
theorem f116_50 : am_tab 116 50 = some (.aload_n 0, 1, 0, 0, 0, .null) := by decide +kernel
theorem f116_51 : am_tab 116 51 = some (.getfield 20, 3, 9, 1, 2003, .null) := by decide +kernel
theorem f116_54 : am_tab 116 54 = some (.iload_n 1, 1, 0, 0, 0, .null) := by decide +kernel
theorem f116_55 : am_tab 116 55 = some (.iload_n 2, 1, 0, 0, 0, .null) := by decide +kernel
theorem f116_56 : am_tab 116 56 = some (.invokevirtual 253, 3, 61, 3, 4033, .int 0) := by decide +kernel
theorem f116_59 : am_tab 116 59 = some (.aload_n 0, 1, 0, 0, 0, .null) := by decide +kernel
theorem f116_60 : am_tab 116 60 = some (.getfield 20, 3, 9, 1, 2003, .null) := by decide +kernel
theorem f116_63 : am_tab 116 63 = some (.invokevirtual 139, 3, 48, 1, 2194, .int 0) := by decide +kernel
theorem f116_66 : am_tab 116 66 = some (.ireturn, 1, 0, 0, 0, .null) := by decide +kernel
theorem f117_0 : am_tab 117 0 = some (.iload_n 1, 1, 0, 0, 0, .null) := by decide +kernel
theorem f117_1 : am_tab 117 1 = some (.invokestatic 256, 3, 138, 1, 4041, .int 2) := by decide +kernel
theorem f117_4 : am_tab 117 4 = some (.ifCond .ne 14, 3, 18, 0, 0, .null) := by decide +kernel
theorem f117_7 : am_tab 117 7 = some (.athrow, 0, 0, 1, 14, .null) := by decide +kernel
theorem f117_18 : am_tab 117 18 = some (.aload_n 0, 1, 0, 0, 0, .null) := by decide +kernel
theorem f117_19 : am_tab 117 19 = some (.getfield 59, 3, 9, 8, 2010, .null) := by decide +kernel
theorem f117_22 : am_tab 117 22 = some (.aload_n 0, 1, 0, 0, 0, .null) := by decide +kernel
theorem f117_23 : am_tab 117 23 = some (.getfield 20, 3, 9, 1, 2003, .null) := by decide +kernel
theorem f117_26 : am_tab 117 26 = some (.invokevirtual 231, 3, 38, 2, 2080, .int 0) := by decide +kernel
theorem f117_29 : am_tab 117 29 = some (.aload_n 0, 1, 0, 0, 0, .null) := by decide +kernel
theorem f117_30 : am_tab 117 30 = some (.getfield 20, 3, 9, 1, 2003, .null) := by decide +kernel
theorem f117_33 : am_tab 117 33 = some (.aload_n 0, 1, 0, 0, 0, .null) := by decide +kernel
theorem f117_34 : am_tab 117 34 = some (.getfield 20, 3, 9, 1, 2003, .null) := by decide +kernel
theorem f117_37 : am_tab 117 37 = some (.iload_n 1, 1, 0, 0, 0, .null) := by decide +kernel
theorem f117_38 : am_tab 117 38 = some (.invokevirtual 261, 3, 68, 2, 4043, .int 0) := by decide +kernel
theorem f117_41 : am_tab 117 41 = some (.invokevirtual 265, 3, 62, 2, 4044, .int 0) := by decide +kernel
theorem f117_44 : am_tab 117 44 = some (.aload_n 0, 1, 0, 0, 0, .null) := by decide +kernel
theorem f117_45 : am_tab 117 45 = some (.getfield 20, 3, 9, 1, 2003, .null) := by decide +kernel
theorem f117_48 : am_tab 117 48 = some (.invokevirtual 139, 3, 48, 1, 2194, .int 0) := by decide +kernel
theorem f117_51 : am_tab 117 51 = some (.ireturn, 1, 0, 0, 0, .null) := by decide +kernel
theorem f118_0 : am_tab 118 0 = some (.aload_n 0, 1, 0, 0, 0, .null) := by decide +kernel
theorem f118_1 : am_tab 118 1 = some (.getfield 20, 3, 9, 1, 2003, .null) := by decide +kernel
theorem f118_4 : am_tab 118 4 = some (.iload_n 1, 1, 0, 0, 0, .null) := by decide +kernel
theorem f118_5 : am_tab 118 5 = some (.invokevirtual 208, 3, 49, 2, 3236, .int 0) := by decide +kernel
theorem f118_8 : am_tab 118 8 = some (.ifCond .ne 13, 3, 21, 0, 0, .null) := by decide +kernel
theorem f118_11 : am_tab 118 11 = some (.athrow, 0, 2, 0, 15, .null) := by decide +kernel
theorem f118_21 : am_tab 118 21 = some (.iload_n 2, 1, 0, 0, 0, .null) := by decide +kernel
theorem f118_22 : am_tab 118 22 = some (.invokestatic 269, 3, 137, 1, 4052, .int 2) := by decide +kernel
theorem f118_25 : am_tab 118 25 = some (.ifCond .ne 14, 3, 39, 0, 0, .null) := by decide +kernel
theorem f118_28 : am_tab 118 28 = some (.athrow, 0, 0, 1, 16, .null) := by decide +kernel
theorem f118_39 : am_tab 118 39 = some (.aload_n 0, 1, 0, 0, 0, .null) := by decide +kernel
theorem f118_40 : am_tab 118 40 = some (.getfield 59, 3, 9, 8, 2010, .null) := by decide +kernel
theorem f118_43 : am_tab 118 43 = some (.aload_n 0, 1, 0, 0, 0, .null) := by decide +kernel
theorem f118_44 : am_tab 118 44 = some (.getfield 20, 3, 9, 1, 2003, .null) := by decide +kernel
theorem f118_47 : am_tab 118 47 = some (.invokevirtual 231, 3, 38, 2, 2080, .int 0) := by decide +kernel
theorem f118_50 : am_tab 118 50 = some (.aload_n 0, 1, 0, 0, 0, .null) := by decide +kernel
theorem f118_51 : am_tab 118 51 = some (.getfield 20, 3, 9, 1, 2003, .null) := by decide +kernel
theorem f118_54 : am_tab 118 54 = some (.iload_n 1, 1, 0, 0, 0, .null) := by decide +kernel
theorem f118_55 : am_tab 118 55 = some (.invokevirtual 216, 3, 46, 2, 3238, .int 0) := by decide +kernel
theorem f118_58 : am_tab 118 58 = some (.istore_n 3, 1, 0, 0, 0, .null) := by decide +kernel
theorem f118_59 : am_tab 118 59 = some (.aload_n 0, 1, 0, 0, 0, .null) := by decide +kernel
theorem f118_60 : am_tab 118 60 = some (.getfield 20, 3, 9, 1, 2003, .null) := by decide +kernel
theorem f118_63 : am_tab 118 63 = some (.iload_n 1, 1, 0, 0, 0, .null) := by decide +kernel
theorem f118_64 : am_tab 118 64 = some (.iload_n 2, 1, 0, 0, 0, .null) := by decide +kernel
theorem f118_65 : am_tab 118 65 = some (.invokevirtual 274, 3, 60, 3, 4054, .int 0) := by decide +kernel
theorem f118_68 : am_tab 118 68 = some (.iload_n 3, 1, 0, 0, 0, .null) := by decide +kernel
theorem f118_69 : am_tab 118 69 = some (.ireturn, 1, 0, 0, 0, .null) := by decide +kernel
theorem f119_0 : am_tab 119 0 = some (.aload_n 0, 1, 0, 0, 0, .null) := by decide +kernel
theorem f119_1 : am_tab 119 1 = some (.getfield 59, 3, 9, 8, 2010, .null) := by decide +kernel
theorem f119_4 : am_tab 119 4 = some (.aload_n 0, 1, 0, 0, 0, .null) := by decide +kernel
theorem f119_5 : am_tab 119 5 = some (.getfield 20, 3, 9, 1, 2003, .null) := by decide +kernel
theorem f119_8 : am_tab 119 8 = some (.invokevirtual 231, 3, 38, 2, 2080, .int 0) := by decide +kernel
theorem f119_11 : am_tab 119 11 = some (.aload_n 0, 1, 0, 0, 0, .null) := by decide +kernel
theorem f119_12 : am_tab 119 12 = some (.getfield 20, 3, 9, 1, 2003, .null) := by decide +kernel
theorem f119_15 : am_tab 119 15 = some (.invokevirtual 277, 3, 63, 1, 2098, .int 0) := by decide +kernel
theorem f119_18 : am_tab 119 18 = some (.aload_n 0, 1, 0, 0, 0, .null) := by decide +kernel
theorem f119_19 : am_tab 119 19 = some (.getfield 20, 3, 9, 1, 2003, .null) := by decide +kernel
theorem f119_22 : am_tab 119 22 = some (.invokevirtual 280, 3, 55, 1, 2127, .int 0) := by decide +kernel
theorem f119_25 : am_tab 119 25 = some (.ireturn, 1, 0, 0, 0, .null) := by decide +kernel
theorem f120_0 : am_tab 120 0 = some (.iload_n 1, 1, 0, 0, 0, .null) := by decide +kernel
theorem f120_1 : am_tab 120 1 = some (.invokestatic 283, 3, 139, 1, 4062, .int 2) := by decide +kernel
theorem f120_4 : am_tab 120 4 = some (.ifCond .ne 14, 3, 18, 0, 0, .null) := by decide +kernel
theorem f120_7 : am_tab 120 7 = some (.athrow, 0, 0, 1, 17, .null) := by decide +kernel
theorem f120_18 : am_tab 120 18 = some (.aload_n 0, 1, 0, 0, 0, .null) := by decide +kernel
theorem f120_19 : am_tab 120 19 = some (.getfield 20, 3, 9, 1, 2003, .null) := by decide +kernel
theorem f120_22 : am_tab 120 22 = some (.invokevirtual 288, 3, 56, 1, 2135, .int 0) := by decide +kernel
theorem f120_25 : am_tab 120 25 = some (.ifCond .ne 13, 3, 38, 0, 0, .null) := by decide +kernel
theorem f120_28 : am_tab 120 28 = some (.athrow, 0, 1, 0, 18, .null) := by decide +kernel
theorem f120_38 : am_tab 120 38 = some (.aload_n 0, 1, 0, 0, 0, .null) := by decide +kernel
theorem f120_39 : am_tab 120 39 = some (.getfield 59, 3, 9, 8, 2010, .null) := by decide +kernel
theorem f120_42 : am_tab 120 42 = some (.aload_n 0, 1, 0, 0, 0, .null) := by decide +kernel
theorem f120_43 : am_tab 120 43 = some (.getfield 20, 3, 9, 1, 2003, .null) := by decide +kernel
theorem f120_46 : am_tab 120 46 = some (.invokevirtual 231, 3, 38, 2, 2080, .int 0) := by decide +kernel
theorem f120_49 : am_tab 120 49 = some (.aload_n 0, 1, 0, 0, 0, .null) := by decide +kernel
theorem f120_50 : am_tab 120 50 = some (.getfield 10, 3, 9, 0, 2002, .null) := by decide +kernel
theorem f120_53 : am_tab 120 53 = some (.iload_n 1, 1, 0, 0, 0, .null) := by decide +kernel
theorem f120_54 : am_tab 120 54 = some (.invokevirtual 291, 3, 35, 2, 4064, .int 0) := by decide +kernel
theorem f120_57 : am_tab 120 57 = some (.pop, 1, 0, 0, 0, .null) := by decide +kernel
theorem f120_58 : am_tab 120 58 = some (.aload_n 0, 1, 0, 0, 0, .null) := by decide +kernel
theorem f120_59 : am_tab 120 59 = some (.getfield 10, 3, 9, 0, 2002, .null) := by decide +kernel
theorem f120_62 : am_tab 120 62 = some (.getfield 294, 3, 1, 1, 1132, .int 1) := by decide +kernel
theorem f120_65 : am_tab 120 65 = some (.getfield 295, 3, 5, 2, 1114, .int 1) := by decide +kernel
theorem f120_68 : am_tab 120 68 = some (.ireturn, 1, 0, 0, 0, .null) := by decide +kernel
theorem f121_0 : am_tab 121 0 = some (.iload_n 1, 1, 0, 0, 0, .null) := by decide +kernel
theorem f121_1 : am_tab 121 1 = some (.ifCond .eq 19, 3, 20, 0, 0, .null) := by decide +kernel
theorem f121_4 : am_tab 121 4 = some (.iload_n 1, 1, 0, 0, 0, .null) := by decide +kernel
theorem f121_5 : am_tab 121 5 = some (.iconst 1, 1, 0, 0, 0, .null) := by decide +kernel
theorem f121_6 : am_tab 121 6 = some (.if_icmp .eq 14, 3, 20, 0, 0, .null) := by decide +kernel
theorem f121_9 : am_tab 121 9 = some (.athrow, 0, 0, 1, 19, .null) := by decide +kernel
theorem f121_20 : am_tab 121 20 = some (.aload_n 0, 1, 0, 0, 0, .null) := by decide +kernel
theorem f121_21 : am_tab 121 21 = some (.getfield 59, 3, 9, 8, 2010, .null) := by decide +kernel
theorem f121_24 : am_tab 121 24 = some (.aload_n 0, 1, 0, 0, 0, .null) := by decide +kernel
theorem f121_25 : am_tab 121 25 = some (.getfield 20, 3, 9, 1, 2003, .null) := by decide +kernel
theorem f121_28 : am_tab 121 28 = some (.invokevirtual 231, 3, 38, 2, 2080, .int 0) := by decide +kernel
theorem f121_31 : am_tab 121 31 = some (.aload_n 0, 1, 0, 0, 0, .null) := by decide +kernel
theorem f121_32 : am_tab 121 32 = some (.getfield 20, 3, 9, 1, 2003, .null) := by decide +kernel
theorem f121_35 : am_tab 121 35 = some (.getfield 175, 3, 3, 8, 1059, .int 1) := by decide +kernel
theorem f121_38 : am_tab 121 38 = some (.istore_n 2, 1, 0, 0, 0, .null) := by decide +kernel
theorem f121_39 : am_tab 121 39 = some (.aload_n 0, 1, 0, 0, 0, .null) := by decide +kernel
theorem f121_40 : am_tab 121 40 = some (.getfield 20, 3, 9, 1, 2003, .null) := by decide +kernel
theorem f121_43 : am_tab 121 43 = some (.iload_n 1, 1, 0, 0, 0, .null) := by decide +kernel
theorem f121_44 : am_tab 121 44 = some (.putfield 175, 3, 3, 8, 1059, .int 1) := by decide +kernel
theorem f121_47 : am_tab 121 47 = some (.iload_n 2, 1, 0, 0, 0, .null) := by decide +kernel
theorem f121_48 : am_tab 121 48 = some (.ireturn, 1, 0, 0, 0, .null) := by decide +kernel
theorem f122_0 : am_tab 122 0 = some (.aload_n 0, 1, 0, 0, 0, .null) := by decide +kernel
theorem f122_1 : am_tab 122 1 = some (.getfield 59, 3, 9, 8, 2010, .null) := by decide +kernel
theorem f122_4 : am_tab 122 4 = some (.getfield 300, 3, 2, 2, 1188, .int 1) := by decide +kernel
theorem f122_7 : am_tab 122 7 = some (.ifCond .ne 14, 3, 21, 0, 0, .null) := by decide +kernel
theorem f122_10 : am_tab 122 10 = some (.athrow, 0, 1, 1, 20, .null) := by decide +kernel
theorem f122_21 : am_tab 122 21 = some (.aload_n 0, 1, 0, 0, 0, .null) := by decide +kernel
theorem f122_22 : am_tab 122 22 = some (.getfield 59, 3, 9, 8, 2010, .null) := by decide +kernel
theorem f122_25 : am_tab 122 25 = some (.aload_n 0, 1, 0, 0, 0, .null) := by decide +kernel
theorem f122_26 : am_tab 122 26 = some (.getfield 20, 3, 9, 1, 2003, .null) := by decide +kernel
theorem f122_29 : am_tab 122 29 = some (.invokevirtual 305, 3, 39, 2, 4081, .int 0) := by decide +kernel
theorem f122_32 : am_tab 122 32 = some (.aload_n 0, 1, 0, 0, 0, .null) := by decide +kernel
theorem f122_33 : am_tab 122 33 = some (.getfield 59, 3, 9, 8, 2010, .null) := by decide +kernel
theorem f122_36 : am_tab 122 36 = some (.getfield 300, 3, 2, 2, 1188, .int 1) := by decide +kernel
theorem f122_39 : am_tab 122 39 = some (.ireturn, 1, 0, 0, 0, .null) := by decide +kernel
theorem f123_0 : am_tab 123 0 = some (.iload_n 1, 1, 0, 0, 0, .null) := by decide +kernel
theorem f123_1 : am_tab 123 1 = some (.invokestatic 283, 3, 139, 1, 4062, .int 2) := by decide +kernel
theorem f123_4 : am_tab 123 4 = some (.ifCond .ne 14, 3, 18, 0, 0, .null) := by decide +kernel
theorem f123_7 : am_tab 123 7 = some (.athrow, 0, 0, 1, 21, .null) := by decide +kernel
theorem f123_18 : am_tab 123 18 = some (.iload_n 2, 1, 0, 0, 0, .null) := by decide +kernel
theorem f123_19 : am_tab 123 19 = some (.ifCond .lt 8, 3, 27, 0, 0, .null) := by decide +kernel
theorem f123_22 : am_tab 123 22 = some (.iload_n 2, 1, 0, 0, 0, .null) := by decide +kernel
theorem f123_23 : am_tab 123 23 = some (.iconst 3, 1, 0, 0, 0, .null) := by decide +kernel
theorem f123_24 : am_tab 123 24 = some (.if_icmp .le 14, 3, 38, 0, 0, .null) := by decide +kernel
theorem f123_27 : am_tab 123 27 = some (.athrow, 0, 0, 1, 22, .null) := by decide +kernel
theorem f123_38 : am_tab 123 38 = some (.aload_n 0, 1, 0, 0, 0, .null) := by decide +kernel
theorem f123_39 : am_tab 123 39 = some (.getfield 20, 3, 9, 1, 2003, .null) := by decide +kernel
theorem f123_42 : am_tab 123 42 = some (.invokevirtual 288, 3, 56, 1, 2135, .int 0) := by decide +kernel
theorem f123_45 : am_tab 123 45 = some (.ifCond .ne 13, 3, 58, 0, 0, .null) := by decide +kernel
theorem f123_48 : am_tab 123 48 = some (.athrow, 0, 1, 0, 23, .null) := by decide +kernel
theorem f123_58 : am_tab 123 58 = some (.aload_n 0, 1, 0, 0, 0, .null) := by decide +kernel
theorem f123_59 : am_tab 123 59 = some (.getfield 38, 3, 9, 5, 2007, .null) := by decide +kernel
theorem f123_62 : am_tab 123 62 = some (.aload_n 0, 1, 0, 0, 0, .null) := by decide +kernel
theorem f123_63 : am_tab 123 63 = some (.getfield 20, 3, 9, 1, 2003, .null) := by decide +kernel
theorem f123_66 : am_tab 123 66 = some (.iload_n 1, 1, 0, 0, 0, .null) := by decide +kernel
theorem f123_67 : am_tab 123 67 = some (.invokevirtual 310, 3, 81, 3, 2139, .int 0) := by decide +kernel
theorem f123_70 : am_tab 123 70 = some (.iload_n 2, 1, 0, 0, 0, .null) := by decide +kernel
theorem f123_71 : am_tab 123 71 = some (.tableswitch 67 0 2 #[25, 33, 44], 25, 0, 0, 0, .null) := by decide +kernel
theorem f123_96 : am_tab 123 96 = some (.aload_n 0, 1, 0, 0, 0, .null) := by decide +kernel
theorem f123_97 : am_tab 123 97 = some (.getfield 38, 3, 9, 5, 2007, .null) := by decide +kernel
theorem f123_100 : am_tab 123 100 = some (.getfield 295, 3, 5, 2, 1114, .int 1) := by decide +kernel
theorem f123_103 : am_tab 123 103 = some (.ireturn, 1, 0, 0, 0, .null) := by decide +kernel
theorem f123_104 : am_tab 123 104 = some (.aload_n 0, 1, 0, 0, 0, .null) := by decide +kernel
theorem f123_105 : am_tab 123 105 = some (.getfield 38, 3, 9, 5, 2007, .null) := by decide +kernel
theorem f123_108 : am_tab 123 108 = some (.getfield 314, 3, 5, 3, 1117, .int 1) := by decide +kernel
theorem f123_111 : am_tab 123 111 = some (.invokestatic 146, 3, 231, 1, 3188, .int 2) := by decide +kernel
theorem f123_114 : am_tab 123 114 = some (.ireturn, 1, 0, 0, 0, .null) := by decide +kernel
theorem f123_115 : am_tab 123 115 = some (.aload_n 0, 1, 0, 0, 0, .null) := by decide +kernel
theorem f123_116 : am_tab 123 116 = some (.getfield 38, 3, 9, 5, 2007, .null) := by decide +kernel
theorem f123_119 : am_tab 123 119 = some (.getfield 314, 3, 5, 3, 1117, .int 1) := by decide +kernel
theorem f123_122 : am_tab 123 122 = some (.aload_n 0, 1, 0, 0, 0, .null) := by decide +kernel
theorem f123_123 : am_tab 123 123 = some (.getfield 20, 3, 9, 1, 2003, .null) := by decide +kernel
theorem f123_126 : am_tab 123 126 = some (.getfield 142, 3, 3, 5, 1050, .int 1) := by decide +kernel
theorem f123_129 : am_tab 123 129 = some (.ldc2_w 317, 3, 0, 0, 4093, .long (-1)) := by decide +kernel
theorem f123_132 : am_tab 123 132 = some (.lxor, 1, 0, 0, 0, .null) := by decide +kernel
theorem f123_133 : am_tab 123 133 = some (.land, 1, 0, 0, 0, .null) := by decide +kernel
theorem f123_134 : am_tab 123 134 = some (.invokestatic 146, 3, 231, 1, 3188, .int 2) := by decide +kernel
theorem f123_137 : am_tab 123 137 = some (.ireturn, 1, 0, 0, 0, .null) := by decide +kernel
theorem f123_138 : am_tab 123 138 = some (.aload_n 0, 1, 0, 0, 0, .null) := by decide +kernel
theorem f123_139 : am_tab 123 139 = some (.getfield 20, 3, 9, 1, 2003, .null) := by decide +kernel
theorem f123_142 : am_tab 123 142 = some (.getfield 142, 3, 3, 5, 1050, .int 1) := by decide +kernel
theorem f123_145 : am_tab 123 145 = some (.aload_n 0, 1, 0, 0, 0, .null) := by decide +kernel
theorem f123_146 : am_tab 123 146 = some (.getfield 38, 3, 9, 5, 2007, .null) := by decide +kernel
theorem f123_149 : am_tab 123 149 = some (.getfield 314, 3, 5, 3, 1117, .int 1) := by decide +kernel
theorem f123_152 : am_tab 123 152 = some (.ldc2_w 317, 3, 0, 0, 4093, .long (-1)) := by decide +kernel
theorem f123_155 : am_tab 123 155 = some (.lxor, 1, 0, 0, 0, .null) := by decide +kernel
theorem f123_156 : am_tab 123 156 = some (.land, 1, 0, 0, 0, .null) := by decide +kernel
theorem f123_157 : am_tab 123 157 = some (.invokestatic 146, 3, 231, 1, 3188, .int 2) := by decide +kernel
theorem f123_160 : am_tab 123 160 = some (.ireturn, 1, 0, 0, 0, .null) := by decide +kernel
theorem f124_0 : am_tab 124 0 = some (.aload_n 0, 1, 0, 0, 0, .null) := by decide +kernel
theorem f124_1 : am_tab 124 1 = some (.getfield 20, 3, 9, 1, 2003, .null) := by decide +kernel
theorem f124_4 : am_tab 124 4 = some (.invokevirtual 288, 3, 56, 1, 2135, .int 0) := by decide +kernel
theorem f124_7 : am_tab 124 7 = some (.ifCond .ne 5, 3, 12, 0, 0, .null) := by decide +kernel
theorem f124_10 : am_tab 124 10 = some (.iconst (-1), 1, 0, 0, 0, .null) := by decide +kernel
theorem f124_11 : am_tab 124 11 = some (.ireturn, 1, 0, 0, 0, .null) := by decide +kernel
theorem f124_12 : am_tab 124 12 = some (.iconst (-1), 1, 0, 0, 0, .null) := by decide +kernel
theorem f124_13 : am_tab 124 13 = some (.istore_n 1, 1, 0, 0, 0, .null) := by decide +kernel
theorem f124_14 : am_tab 124 14 = some (.iconst 0, 1, 0, 0, 0, .null) := by decide +kernel
theorem f124_15 : am_tab 124 15 = some (.istore_n 2, 1, 0, 0, 0, .null) := by decide +kernel
theorem f124_16 : am_tab 124 16 = some (.iconst 0, 1, 0, 0, 0, .null) := by decide +kernel
theorem f124_17 : am_tab 124 17 = some (.istore_n 3, 1, 0, 0, 0, .null) := by decide +kernel
theorem f124_18 : am_tab 124 18 = some (.iload_n 3, 1, 0, 0, 0, .null) := by decide +kernel
theorem f124_19 : am_tab 124 19 = some (.iconst 3, 1, 0, 0, 0, .null) := by decide +kernel
theorem f124_20 : am_tab 124 20 = some (.if_icmp .ge 47, 3, 67, 0, 0, .null) := by decide +kernel
theorem f124_23 : am_tab 124 23 = some (.aload_n 0, 1, 0, 0, 0, .null) := by decide +kernel
theorem f124_24 : am_tab 124 24 = some (.getfield 38, 3, 9, 5, 2007, .null) := by decide +kernel
theorem f124_27 : am_tab 124 27 = some (.aload_n 0, 1, 0, 0, 0, .null) := by decide +kernel
theorem f124_28 : am_tab 124 28 = some (.getfield 20, 3, 9, 1, 2003, .null) := by decide +kernel
theorem f124_31 : am_tab 124 31 = some (.iload_n 3, 1, 0, 0, 0, .null) := by decide +kernel
theorem f124_32 : am_tab 124 32 = some (.invokevirtual 310, 3, 81, 3, 2139, .int 0) := by decide +kernel
theorem f124_35 : am_tab 124 35 = some (.iload_n 1, 1, 0, 0, 0, .null) := by decide +kernel
theorem f124_36 : am_tab 124 36 = some (.iconst (-1), 1, 0, 0, 0, .null) := by decide +kernel
theorem f124_37 : am_tab 124 37 = some (.if_icmp .eq 14, 3, 51, 0, 0, .null) := by decide +kernel
theorem f124_40 : am_tab 124 40 = some (.aload_n 0, 1, 0, 0, 0, .null) := by decide +kernel
theorem f124_41 : am_tab 124 41 = some (.getfield 38, 3, 9, 5, 2007, .null) := by decide +kernel
theorem f124_44 : am_tab 124 44 = some (.getfield 295, 3, 5, 2, 1114, .int 1) := by decide +kernel
theorem f124_47 : am_tab 124 47 = some (.iload_n 2, 1, 0, 0, 0, .null) := by decide +kernel
theorem f124_48 : am_tab 124 48 = some (.if_icmp .ge 13, 3, 61, 0, 0, .null) := by decide +kernel
theorem f124_51 : am_tab 124 51 = some (.iload_n 3, 1, 0, 0, 0, .null) := by decide +kernel
theorem f124_52 : am_tab 124 52 = some (.istore_n 1, 1, 0, 0, 0, .null) := by decide +kernel
theorem f124_53 : am_tab 124 53 = some (.aload_n 0, 1, 0, 0, 0, .null) := by decide +kernel
theorem f124_54 : am_tab 124 54 = some (.getfield 38, 3, 9, 5, 2007, .null) := by decide +kernel
theorem f124_57 : am_tab 124 57 = some (.getfield 295, 3, 5, 2, 1114, .int 1) := by decide +kernel
theorem f124_60 : am_tab 124 60 = some (.istore_n 2, 1, 0, 0, 0, .null) := by decide +kernel
theorem f124_61 : am_tab 124 61 = some (.iinc 3 1, 3, 0, 0, 0, .null) := by decide +kernel
theorem f124_64 : am_tab 124 64 = some (.goto (-46), 3, 18, 0, 0, .null) := by decide +kernel
theorem f124_67 : am_tab 124 67 = some (.iload_n 1, 1, 0, 0, 0, .null) := by decide +kernel
theorem f124_68 : am_tab 124 68 = some (.ireturn, 1, 0, 0, 0, .null) := by decide +kernel
theorem f125_0 : am_tab 125 0 = some (.aload_n 0, 1, 0, 0, 0, .null) := by decide +kernel
theorem f125_1 : am_tab 125 1 = some (.getfield 20, 3, 9, 1, 2003, .null) := by decide +kernel
theorem f125_4 : am_tab 125 4 = some (.iload_n 1, 1, 0, 0, 0, .null) := by decide +kernel
theorem f125_5 : am_tab 125 5 = some (.invokevirtual 208, 3, 49, 2, 3236, .int 0) := by decide +kernel
theorem f125_8 : am_tab 125 8 = some (.ifCond .ne 13, 3, 21, 0, 0, .null) := by decide +kernel
theorem f125_11 : am_tab 125 11 = some (.athrow, 0, 2, 0, 24, .null) := by decide +kernel
theorem f125_21 : am_tab 125 21 = some (.iload_n 2, 1, 0, 0, 0, .null) := by decide +kernel
theorem f125_22 : am_tab 125 22 = some (.invokestatic 283, 3, 139, 1, 4062, .int 2) := by decide +kernel
theorem f125_25 : am_tab 125 25 = some (.ifCond .ne 14, 3, 39, 0, 0, .null) := by decide +kernel
theorem f125_28 : am_tab 125 28 = some (.athrow, 0, 0, 1, 25, .null) := by decide +kernel
theorem f125_39 : am_tab 125 39 = some (.iload_n 3, 1, 0, 0, 0, .null) := by decide +kernel
theorem f125_40 : am_tab 125 40 = some (.ifCond .eq 19, 3, 59, 0, 0, .null) := by decide +kernel
theorem f125_43 : am_tab 125 43 = some (.iload_n 3, 1, 0, 0, 0, .null) := by decide +kernel
theorem f125_44 : am_tab 125 44 = some (.iconst 1, 1, 0, 0, 0, .null) := by decide +kernel
theorem f125_45 : am_tab 125 45 = some (.if_icmp .eq 14, 3, 59, 0, 0, .null) := by decide +kernel
theorem f125_48 : am_tab 125 48 = some (.athrow, 0, 0, 1, 26, .null) := by decide +kernel
theorem f125_59 : am_tab 125 59 = some (.aload_n 0, 1, 0, 0, 0, .null) := by decide +kernel
theorem f125_60 : am_tab 125 60 = some (.getfield 45, 3, 9, 6, 2008, .null) := by decide +kernel
theorem f125_63 : am_tab 125 63 = some (.aload_n 0, 1, 0, 0, 0, .null) := by decide +kernel
theorem f125_64 : am_tab 125 64 = some (.getfield 20, 3, 9, 1, 2003, .null) := by decide +kernel
theorem f125_67 : am_tab 125 67 = some (.iload_n 1, 1, 0, 0, 0, .null) := by decide +kernel
theorem f125_68 : am_tab 125 68 = some (.iload_n 2, 1, 0, 0, 0, .null) := by decide +kernel
theorem f125_69 : am_tab 125 69 = some (.invokevirtual 321, 3, 70, 4, 4102, .int 0) := by decide +kernel
theorem f125_72 : am_tab 125 72 = some (.iload_n 3, 1, 0, 0, 0, .null) := by decide +kernel
theorem f125_73 : am_tab 125 73 = some (.ifCond .ne 13, 3, 86, 0, 0, .null) := by decide +kernel
theorem f125_76 : am_tab 125 76 = some (.aload_n 0, 1, 0, 0, 0, .null) := by decide +kernel
theorem f125_77 : am_tab 125 77 = some (.getfield 45, 3, 9, 6, 2008, .null) := by decide +kernel
theorem f125_80 : am_tab 125 80 = some (.getfield 325, 3, 4, 2, 1153, .int 1) := by decide +kernel
theorem f125_83 : am_tab 125 83 = some (.goto 10, 3, 93, 0, 0, .null) := by decide +kernel
theorem f125_86 : am_tab 125 86 = some (.aload_n 0, 1, 0, 0, 0, .null) := by decide +kernel
theorem f125_87 : am_tab 125 87 = some (.getfield 45, 3, 9, 6, 2008, .null) := by decide +kernel
theorem f125_90 : am_tab 125 90 = some (.getfield 328, 3, 4, 3, 1155, .int 1) := by decide +kernel
theorem f125_93 : am_tab 125 93 = some (.ireturn, 1, 0, 0, 0, .null) := by decide +kernel
theorem f126_0 : am_tab 126 0 = some (.aload_n 0, 1, 0, 0, 0, .null) := by decide +kernel
theorem f126_1 : am_tab 126 1 = some (.getfield 20, 3, 9, 1, 2003, .null) := by decide +kernel
theorem f126_4 : am_tab 126 4 = some (.iload_n 1, 1, 0, 0, 0, .null) := by decide +kernel
theorem f126_5 : am_tab 126 5 = some (.invokevirtual 208, 3, 49, 2, 3236, .int 0) := by decide +kernel
theorem f126_8 : am_tab 126 8 = some (.ifCond .ne 13, 3, 21, 0, 0, .null) := by decide +kernel
theorem f126_11 : am_tab 126 11 = some (.athrow, 0, 2, 0, 27, .null) := by decide +kernel
theorem f126_21 : am_tab 126 21 = some (.aload_n 0, 1, 0, 0, 0, .null) := by decide +kernel
theorem f126_22 : am_tab 126 22 = some (.getfield 45, 3, 9, 6, 2008, .null) := by decide +kernel
theorem f126_25 : am_tab 126 25 = some (.aload_n 0, 1, 0, 0, 0, .null) := by decide +kernel
theorem f126_26 : am_tab 126 26 = some (.getfield 20, 3, 9, 1, 2003, .null) := by decide +kernel
theorem f126_29 : am_tab 126 29 = some (.iload_n 1, 1, 0, 0, 0, .null) := by decide +kernel
theorem f126_30 : am_tab 126 30 = some (.invokevirtual 331, 3, 72, 3, 4122, .int 0) := by decide +kernel
theorem f126_33 : am_tab 126 33 = some (.ireturn, 1, 0, 0, 0, .null) := by decide +kernel
theorem f127_0 : am_tab 127 0 = some (.iload_n 1, 1, 0, 0, 0, .null) := by decide +kernel
theorem f127_1 : am_tab 127 1 = some (.invokestatic 256, 3, 138, 1, 4041, .int 2) := by decide +kernel
theorem f127_4 : am_tab 127 4 = some (.ifCond .ne 14, 3, 18, 0, 0, .null) := by decide +kernel
theorem f127_7 : am_tab 127 7 = some (.athrow, 0, 0, 1, 28, .null) := by decide +kernel
theorem f127_18 : am_tab 127 18 = some (.aload_n 0, 1, 0, 0, 0, .null) := by decide +kernel
theorem f127_19 : am_tab 127 19 = some (.getfield 20, 3, 9, 1, 2003, .null) := by decide +kernel
theorem f127_22 : am_tab 127 22 = some (.iload_n 1, 1, 0, 0, 0, .null) := by decide +kernel
theorem f127_23 : am_tab 127 23 = some (.invokevirtual 335, 3, 65, 2, 4150, .int 0) := by decide +kernel
theorem f127_26 : am_tab 127 26 = some (.ireturn, 1, 0, 0, 0, .null) := by decide +kernel
theorem f128_0 : am_tab 128 0 = some (.aload_n 0, 1, 0, 0, 0, .null) := by decide +kernel
theorem f128_1 : am_tab 128 1 = some (.getfield 20, 3, 9, 1, 2003, .null) := by decide +kernel
theorem f128_4 : am_tab 128 4 = some (.iload_n 1, 1, 0, 0, 0, .null) := by decide +kernel
theorem f128_5 : am_tab 128 5 = some (.invokevirtual 208, 3, 49, 2, 3236, .int 0) := by decide +kernel
theorem f128_8 : am_tab 128 8 = some (.ifCond .ne 13, 3, 21, 0, 0, .null) := by decide +kernel
theorem f128_11 : am_tab 128 11 = some (.athrow, 0, 2, 0, 29, .null) := by decide +kernel
theorem f128_21 : am_tab 128 21 = some (.aload_n 0, 1, 0, 0, 0, .null) := by decide +kernel
theorem f128_22 : am_tab 128 22 = some (.getfield 20, 3, 9, 1, 2003, .null) := by decide +kernel
theorem f128_25 : am_tab 128 25 = some (.getfield 159, 3, 3, 7, 1055, .int 1) := by decide +kernel
theorem f128_28 : am_tab 128 28 = some (.ifCond .ne 13, 3, 41, 0, 0, .null) := by decide +kernel
theorem f128_31 : am_tab 128 31 = some (.athrow, 0, 1, 0, 30, .null) := by decide +kernel
theorem f128_41 : am_tab 128 41 = some (.aload_n 0, 1, 0, 0, 0, .null) := by decide +kernel
theorem f128_42 : am_tab 128 42 = some (.getfield 52, 3, 9, 7, 2009, .null) := by decide +kernel
theorem f128_45 : am_tab 128 45 = some (.aload_n 0, 1, 0, 0, 0, .null) := by decide +kernel
theorem f128_46 : am_tab 128 46 = some (.getfield 20, 3, 9, 1, 2003, .null) := by decide +kernel
theorem f128_49 : am_tab 128 49 = some (.iload_n 1, 1, 0, 0, 0, .null) := by decide +kernel
theorem f128_50 : am_tab 128 50 = some (.aload_n 0, 1, 0, 0, 0, .null) := by decide +kernel
theorem f128_51 : am_tab 128 51 = some (.getfield 20, 3, 9, 1, 2003, .null) := by decide +kernel
theorem f128_54 : am_tab 128 54 = some (.iload_n 1, 1, 0, 0, 0, .null) := by decide +kernel
theorem f128_55 : am_tab 128 55 = some (.invokevirtual 221, 3, 47, 2, 2195, .int 0) := by decide +kernel
theorem f128_58 : am_tab 128 58 = some (.invokevirtual 338, 3, 92, 4, 4158, .int 0) := by decide +kernel
theorem f128_61 : am_tab 128 61 = some (.ifCond .eq 7, 3, 68, 0, 0, .null) := by decide +kernel
theorem f128_64 : am_tab 128 64 = some (.iconst 1, 1, 0, 0, 0, .null) := by decide +kernel
theorem f128_65 : am_tab 128 65 = some (.goto 4, 3, 69, 0, 0, .null) := by decide +kernel
theorem f128_68 : am_tab 128 68 = some (.iconst 0, 1, 0, 0, 0, .null) := by decide +kernel
theorem f128_69 : am_tab 128 69 = some (.ireturn, 1, 0, 0, 0, .null) := by decide +kernel
theorem f129_0 : am_tab 129 0 = some (.aload_n 0, 1, 0, 0, 0, .null) := by decide +kernel
theorem f129_1 : am_tab 129 1 = some (.getfield 20, 3, 9, 1, 2003, .null) := by decide +kernel
theorem f129_4 : am_tab 129 4 = some (.getfield 159, 3, 3, 7, 1055, .int 1) := by decide +kernel
theorem f129_7 : am_tab 129 7 = some (.ifCond .ne 5, 3, 12, 0, 0, .null) := by decide +kernel
theorem f129_10 : am_tab 129 10 = some (.iconst (-1), 1, 0, 0, 0, .null) := by decide +kernel
theorem f129_11 : am_tab 129 11 = some (.ireturn, 1, 0, 0, 0, .null) := by decide +kernel
theorem f129_12 : am_tab 129 12 = some (.aload_n 0, 1, 0, 0, 0, .null) := by decide +kernel
theorem f129_13 : am_tab 129 13 = some (.getfield 20, 3, 9, 1, 2003, .null) := by decide +kernel
theorem f129_16 : am_tab 129 16 = some (.invokevirtual 139, 3, 48, 1, 2194, .int 0) := by decide +kernel
theorem f129_19 : am_tab 129 19 = some (.istore_n 1, 1, 0, 0, 0, .null) := by decide +kernel
theorem f129_20 : am_tab 129 20 = some (.iconst (-1), 1, 0, 0, 0, .null) := by decide +kernel
theorem f129_21 : am_tab 129 21 = some (.istore_n 2, 1, 0, 0, 0, .null) := by decide +kernel
theorem f129_22 : am_tab 129 22 = some (.iconst 0, 1, 0, 0, 0, .null) := by decide +kernel
theorem f129_23 : am_tab 129 23 = some (.istore_n 3, 1, 0, 0, 0, .null) := by decide +kernel
theorem f129_24 : am_tab 129 24 = some (.iconst 0, 1, 0, 0, 0, .null) := by decide +kernel
theorem f129_25 : am_tab 129 25 = some (.istore 4, 2, 0, 0, 0, .null) := by decide +kernel
theorem f129_27 : am_tab 129 27 = some (.iload 4, 2, 0, 0, 0, .null) := by decide +kernel
theorem f129_29 : am_tab 129 29 = some (.iload_n 1, 1, 0, 0, 0, .null) := by decide +kernel
theorem f129_30 : am_tab 129 30 = some (.if_icmp .ge 63, 3, 93, 0, 0, .null) := by decide +kernel
theorem f129_33 : am_tab 129 33 = some (.aload_n 0, 1, 0, 0, 0, .null) := by decide +kernel
theorem f129_34 : am_tab 129 34 = some (.getfield 20, 3, 9, 1, 2003, .null) := by decide +kernel
theorem f129_37 : am_tab 129 37 = some (.iload 4, 2, 0, 0, 0, .null) := by decide +kernel
theorem f129_39 : am_tab 129 39 = some (.invokevirtual 221, 3, 47, 2, 2195, .int 0) := by decide +kernel
theorem f129_42 : am_tab 129 42 = some (.aload_n 0, 1, 0, 0, 0, .null) := by decide +kernel
theorem f129_43 : am_tab 129 43 = some (.getfield 20, 3, 9, 1, 2003, .null) := by decide +kernel
theorem f129_46 : am_tab 129 46 = some (.aload_n 0, 1, 0, 0, 0, .null) := by decide +kernel
theorem f129_47 : am_tab 129 47 = some (.getfield 20, 3, 9, 1, 2003, .null) := by decide +kernel
theorem f129_50 : am_tab 129 50 = some (.iload 4, 2, 0, 0, 0, .null) := by decide +kernel
theorem f129_52 : am_tab 129 52 = some (.invokevirtual 213, 3, 50, 2, 2196, .int 0) := by decide +kernel
theorem f129_55 : am_tab 129 55 = some (.aload_n 0, 1, 0, 0, 0, .null) := by decide +kernel
theorem f129_56 : am_tab 129 56 = some (.getfield 20, 3, 9, 1, 2003, .null) := by decide +kernel
theorem f129_59 : am_tab 129 59 = some (.iload 4, 2, 0, 0, 0, .null) := by decide +kernel
theorem f129_61 : am_tab 129 61 = some (.iconst 1, 1, 0, 0, 0, .null) := by decide +kernel
theorem f129_62 : am_tab 129 62 = some (.iadd, 1, 0, 0, 0, .null) := by decide +kernel
theorem f129_63 : am_tab 129 63 = some (.invokevirtual 213, 3, 50, 2, 2196, .int 0) := by decide +kernel
theorem f129_66 : am_tab 129 66 = some (.invokevirtual 156, 3, 53, 3, 2197, .int 0) := by decide +kernel
theorem f129_69 : am_tab 129 69 = some (.isub, 1, 0, 0, 0, .null) := by decide +kernel
theorem f129_70 : am_tab 129 70 = some (.invokestatic 342, 3, 0, 0, 2198, .int 12) := by decide +kernel
theorem f129_73 : am_tab 129 73 = some (.istore 5, 2, 0, 0, 0, .null) := by decide +kernel
theorem f129_75 : am_tab 129 75 = some (.iload 5, 2, 0, 0, 0, .null) := by decide +kernel
theorem f129_77 : am_tab 129 77 = some (.iload_n 3, 1, 0, 0, 0, .null) := by decide +kernel
theorem f129_78 : am_tab 129 78 = some (.if_icmp .le 9, 3, 87, 0, 0, .null) := by decide +kernel
theorem f129_81 : am_tab 129 81 = some (.iload 4, 2, 0, 0, 0, .null) := by decide +kernel
theorem f129_83 : am_tab 129 83 = some (.istore_n 2, 1, 0, 0, 0, .null) := by decide +kernel
theorem f129_84 : am_tab 129 84 = some (.iload 5, 2, 0, 0, 0, .null) := by decide +kernel
theorem f129_86 : am_tab 129 86 = some (.istore_n 3, 1, 0, 0, 0, .null) := by decide +kernel
theorem f129_87 : am_tab 129 87 = some (.iinc 4 1, 3, 0, 0, 0, .null) := by decide +kernel
theorem f129_90 : am_tab 129 90 = some (.goto (-63), 3, 27, 0, 0, .null) := by decide +kernel
theorem f129_93 : am_tab 129 93 = some (.iload_n 2, 1, 0, 0, 0, .null) := by decide +kernel
theorem f129_94 : am_tab 129 94 = some (.ireturn, 1, 0, 0, 0, .null) := by decide +kernel
theorem f130_0 : am_tab 130 0 = some (.iload_n 1, 1, 0, 0, 0, .null) := by decide +kernel
theorem f130_1 : am_tab 130 1 = some (.iconst 1, 1, 0, 0, 0, .null) := by decide +kernel
theorem f130_2 : am_tab 130 2 = some (.if_icmp .lt 8, 3, 10, 0, 0, .null) := by decide +kernel
theorem f130_5 : am_tab 130 5 = some (.iload_n 1, 1, 0, 0, 0, .null) := by decide +kernel
theorem f130_6 : am_tab 130 6 = some (.iconst 3, 1, 0, 0, 0, .null) := by decide +kernel
theorem f130_7 : am_tab 130 7 = some (.if_icmp .le 14, 3, 21, 0, 0, .null) := by decide +kernel
theorem f130_10 : am_tab 130 10 = some (.athrow, 0, 0, 1, 31, .null) := by decide +kernel
theorem f130_21 : am_tab 130 21 = some (.lload_n 2, 1, 0, 0, 0, .null) := by decide +kernel
theorem f130_22 : am_tab 130 22 = some (.lconst 0, 1, 0, 0, 0, .null) := by decide +kernel
theorem f130_23 : am_tab 130 23 = some (.lcmp, 1, 0, 0, 0, .null) := by decide +kernel
theorem f130_24 : am_tab 130 24 = some (.ifCond .lt 12, 3, 36, 0, 0, .null) := by decide +kernel
theorem f130_27 : am_tab 130 27 = some (.lload_n 2, 1, 0, 0, 0, .null) := by decide +kernel
theorem f130_28 : am_tab 130 28 = some (.iload_n 1, 1, 0, 0, 0, .null) := by decide +kernel
theorem f130_29 : am_tab 130 29 = some (.invokestatic 349, 3, 77, 1, 4181, .int 2) := by decide +kernel
theorem f130_32 : am_tab 130 32 = some (.lcmp, 1, 0, 0, 0, .null) := by decide +kernel
theorem f130_33 : am_tab 130 33 = some (.ifCond .lt 14, 3, 47, 0, 0, .null) := by decide +kernel
theorem f130_36 : am_tab 130 36 = some (.athrow, 0, 0, 1, 32, .null) := by decide +kernel
theorem f130_47 : am_tab 130 47 = some (.aload_n 0, 1, 0, 0, 0, .null) := by decide +kernel
theorem f130_48 : am_tab 130 48 = some (.getfield 26, 3, 9, 3, 2005, .null) := by decide +kernel
theorem f130_51 : am_tab 130 51 = some (.aload_n 0, 1, 0, 0, 0, .null) := by decide +kernel
theorem f130_52 : am_tab 130 52 = some (.getfield 20, 3, 9, 1, 2003, .null) := by decide +kernel
theorem f130_55 : am_tab 130 55 = some (.invokevirtual 110, 3, 42, 2, 3068, .int 0) := by decide +kernel
theorem f130_58 : am_tab 130 58 = some (.iconst 0, 1, 0, 0, 0, .null) := by decide +kernel
theorem f130_59 : am_tab 130 59 = some (.istore 4, 2, 0, 0, 0, .null) := by decide +kernel
theorem f130_61 : am_tab 130 61 = some (.iload 4, 2, 0, 0, 0, .null) := by decide +kernel
theorem f130_63 : am_tab 130 63 = some (.iload_n 1, 1, 0, 0, 0, .null) := by decide +kernel
theorem f130_64 : am_tab 130 64 = some (.if_icmp .ge 32, 3, 96, 0, 0, .null) := by decide +kernel
theorem f130_67 : am_tab 130 67 = some (.aload_n 0, 1, 0, 0, 0, .null) := by decide +kernel
theorem f130_68 : am_tab 130 68 = some (.getfield 23, 3, 9, 2, 2004, .null) := by decide +kernel
theorem f130_71 : am_tab 130 71 = some (.lload_n 2, 1, 0, 0, 0, .null) := by decide +kernel
theorem f130_72 : am_tab 130 72 = some (.iload_n 1, 1, 0, 0, 0, .null) := by decide +kernel
theorem f130_73 : am_tab 130 73 = some (.iconst 1, 1, 0, 0, 0, .null) := by decide +kernel
theorem f130_74 : am_tab 130 74 = some (.isub, 1, 0, 0, 0, .null) := by decide +kernel
theorem f130_75 : am_tab 130 75 = some (.iload 4, 2, 0, 0, 0, .null) := by decide +kernel
theorem f130_77 : am_tab 130 77 = some (.isub, 1, 0, 0, 0, .null) := by decide +kernel
theorem f130_78 : am_tab 130 78 = some (.invokestatic 356, 3, 78, 2, 4186, .int 2) := by decide +kernel
theorem f130_81 : am_tab 130 81 = some (.invokestatic 359, 3, 79, 2, 4189, .int 2) := by decide +kernel
theorem f130_84 : am_tab 130 84 = some (.ifCond .ne 6, 3, 90, 0, 0, .null) := by decide +kernel
theorem f130_87 : am_tab 130 87 = some (.iload 4, 2, 0, 0, 0, .null) := by decide +kernel
theorem f130_89 : am_tab 130 89 = some (.ireturn, 1, 0, 0, 0, .null) := by decide +kernel
theorem f130_90 : am_tab 130 90 = some (.iinc 4 1, 3, 0, 0, 0, .null) := by decide +kernel
theorem f130_93 : am_tab 130 93 = some (.goto (-32), 3, 61, 0, 0, .null) := by decide +kernel
theorem f130_96 : am_tab 130 96 = some (.iconst (-1), 1, 0, 0, 0, .null) := by decide +kernel
theorem f130_97 : am_tab 130 97 = some (.ireturn, 1, 0, 0, 0, .null) := by decide +kernel
theorem f131_0 : am_tab 131 0 = some (.iload_n 3, 1, 0, 0, 0, .null) := by decide +kernel
theorem f131_1 : am_tab 131 1 = some (.iconst 1, 1, 0, 0, 0, .null) := by decide +kernel
theorem f131_2 : am_tab 131 2 = some (.if_icmp .lt 9, 3, 11, 0, 0, .null) := by decide +kernel
theorem f131_5 : am_tab 131 5 = some (.iload_n 3, 1, 0, 0, 0, .null) := by decide +kernel
theorem f131_6 : am_tab 131 6 = some (.bipush 60, 2, 0, 0, 0, .null) := by decide +kernel
theorem f131_8 : am_tab 131 8 = some (.if_icmp .le 14, 3, 22, 0, 0, .null) := by decide +kernel
theorem f131_11 : am_tab 131 11 = some (.athrow, 0, 0, 1, 33, .null) := by decide +kernel
theorem f131_22 : am_tab 131 22 = some (.aload_n 0, 1, 0, 0, 0, .null) := by decide +kernel
theorem f131_23 : am_tab 131 23 = some (.getfield 26, 3, 9, 3, 2005, .null) := by decide +kernel
theorem f131_26 : am_tab 131 26 = some (.aload_n 0, 1, 0, 0, 0, .null) := by decide +kernel
theorem f131_27 : am_tab 131 27 = some (.getfield 20, 3, 9, 1, 2003, .null) := by decide +kernel
theorem f131_30 : am_tab 131 30 = some (.invokevirtual 110, 3, 42, 2, 3068, .int 0) := by decide +kernel
theorem f131_33 : am_tab 131 33 = some (.lload_n 1, 1, 0, 0, 0, .null) := by decide +kernel
theorem f131_34 : am_tab 131 34 = some (.lstore 4, 2, 0, 0, 0, .null) := by decide +kernel
theorem f131_36 : am_tab 131 36 = some (.iconst 0, 1, 0, 0, 0, .null) := by decide +kernel
theorem f131_37 : am_tab 131 37 = some (.istore 6, 2, 0, 0, 0, .null) := by decide +kernel
theorem f131_39 : am_tab 131 39 = some (.iload 6, 2, 0, 0, 0, .null) := by decide +kernel
theorem f131_41 : am_tab 131 41 = some (.iload_n 3, 1, 0, 0, 0, .null) := by decide +kernel
theorem f131_42 : am_tab 131 42 = some (.if_icmp .ge 34, 3, 76, 0, 0, .null) := by decide +kernel
theorem f131_45 : am_tab 131 45 = some (.lload 4, 2, 0, 0, 0, .null) := by decide +kernel
theorem f131_47 : am_tab 131 47 = some (.ldc2_w 365, 3, 0, 0, 4209, .long (6364136223846793005)) := by decide +kernel
theorem f131_50 : am_tab 131 50 = some (.lmul, 1, 0, 0, 0, .null) := by decide +kernel
theorem f131_51 : am_tab 131 51 = some (.ldc2_w 367, 3, 0, 0, 4210, .long (1442695040888963407)) := by decide +kernel
theorem f131_54 : am_tab 131 54 = some (.ladd, 1, 0, 0, 0, .null) := by decide +kernel
theorem f131_55 : am_tab 131 55 = some (.lstore 4, 2, 0, 0, 0, .null) := by decide +kernel
theorem f131_57 : am_tab 131 57 = some (.aload_n 0, 1, 0, 0, 0, .null) := by decide +kernel
theorem f131_58 : am_tab 131 58 = some (.getfield 23, 3, 9, 2, 2004, .null) := by decide +kernel
theorem f131_61 : am_tab 131 61 = some (.lload 4, 2, 0, 0, 0, .null) := by decide +kernel
theorem f131_63 : am_tab 131 63 = some (.bipush 33, 2, 0, 0, 0, .null) := by decide +kernel
theorem f131_65 : am_tab 131 65 = some (.lushr, 1, 0, 0, 0, .null) := by decide +kernel
theorem f131_66 : am_tab 131 66 = some (.l2i, 1, 0, 0, 0, .null) := by decide +kernel
theorem f131_67 : am_tab 131 67 = some (.invokestatic 369, 3, 84, 2, 4211, .int 2) := by decide +kernel
theorem f131_70 : am_tab 131 70 = some (.iinc 6 1, 3, 0, 0, 0, .null) := by decide +kernel
theorem f131_73 : am_tab 131 73 = some (.goto (-34), 3, 39, 0, 0, .null) := by decide +kernel
theorem f131_76 : am_tab 131 76 = some (.aload_n 0, 1, 0, 0, 0, .null) := by decide +kernel
theorem f131_77 : am_tab 131 77 = some (.getfield 26, 3, 9, 3, 2005, .null) := by decide +kernel
theorem f131_80 : am_tab 131 80 = some (.getfield 163, 3, 3, 9, 1062, .int 1) := by decide +kernel
theorem f131_83 : am_tab 131 83 = some (.aload_n 0, 1, 0, 0, 0, .null) := by decide +kernel
theorem f131_84 : am_tab 131 84 = some (.getfield 20, 3, 9, 1, 2003, .null) := by decide +kernel
theorem f131_87 : am_tab 131 87 = some (.getfield 163, 3, 3, 9, 1062, .int 1) := by decide +kernel
theorem f131_90 : am_tab 131 90 = some (.isub, 1, 0, 0, 0, .null) := by decide +kernel
theorem f131_91 : am_tab 131 91 = some (.istore 6, 2, 0, 0, 0, .null) := by decide +kernel
theorem f131_93 : am_tab 131 93 = some (.sipush 1000, 3, 0, 0, 0, .null) := by decide +kernel
theorem f131_96 : am_tab 131 96 = some (.iload 6, 2, 0, 0, 0, .null) := by decide +kernel
theorem f131_98 : am_tab 131 98 = some (.imul, 1, 0, 0, 0, .null) := by decide +kernel
theorem f131_99 : am_tab 131 99 = some (.bipush 10, 2, 0, 0, 0, .null) := by decide +kernel
theorem f131_101 : am_tab 131 101 = some (.aload_n 0, 1, 0, 0, 0, .null) := by decide +kernel
theorem f131_102 : am_tab 131 102 = some (.getfield 26, 3, 9, 3, 2005, .null) := by decide +kernel
theorem f131_105 : am_tab 131 105 = some (.getfield 166, 3, 3, 6, 1053, .int 1) := by decide +kernel
theorem f131_108 : am_tab 131 108 = some (.invokestatic 146, 3, 231, 1, 3188, .int 2) := by decide +kernel
theorem f131_111 : am_tab 131 111 = some (.imul, 1, 0, 0, 0, .null) := by decide +kernel
theorem f131_112 : am_tab 131 112 = some (.iadd, 1, 0, 0, 0, .null) := by decide +kernel
theorem f131_113 : am_tab 131 113 = some (.aload_n 0, 1, 0, 0, 0, .null) := by decide +kernel
theorem f131_114 : am_tab 131 114 = some (.getfield 26, 3, 9, 3, 2005, .null) := by decide +kernel
theorem f131_117 : am_tab 131 117 = some (.getfield 169, 3, 3, 10, 1064, .int 1) := by decide +kernel
theorem f131_120 : am_tab 131 120 = some (.bipush 9, 2, 0, 0, 0, .null) := by decide +kernel
theorem f131_122 : am_tab 131 122 = some (.invokestatic 375, 3, 0, 0, 4223, .int 11) := by decide +kernel
theorem f131_125 : am_tab 131 125 = some (.iadd, 1, 0, 0, 0, .null) := by decide +kernel
theorem f131_126 : am_tab 131 126 = some (.ireturn, 1, 0, 0, 0, .null) := by decide +kernel
theorem f132_0 : am_tab 132 0 = some (.iload_n 1, 1, 0, 0, 0, .null) := by decide +kernel
theorem f132_1 : am_tab 132 1 = some (.invokestatic 378, 3, 140, 1, 4231, .int 2) := by decide +kernel
theorem f132_4 : am_tab 132 4 = some (.ifCond .ne 14, 3, 18, 0, 0, .null) := by decide +kernel
theorem f132_7 : am_tab 132 7 = some (.athrow, 0, 2, 1, 34, .null) := by decide +kernel
theorem f132_18 : am_tab 132 18 = some (.aload_n 0, 1, 0, 0, 0, .null) := by decide +kernel
theorem f132_19 : am_tab 132 19 = some (.getfield 66, 3, 9, 9, 2011, .null) := by decide +kernel
theorem f132_22 : am_tab 132 22 = some (.iload_n 1, 1, 0, 0, 0, .null) := by decide +kernel
theorem f132_23 : am_tab 132 23 = some (.aload_n 0, 1, 0, 0, 0, .null) := by decide +kernel
theorem f132_24 : am_tab 132 24 = some (.getfield 20, 3, 9, 1, 2003, .null) := by decide +kernel
theorem f132_27 : am_tab 132 27 = some (.invokevirtual 383, 3, 89, 3, 4235, .int 0) := by decide +kernel
theorem f132_30 : am_tab 132 30 = some (.aload_n 0, 1, 0, 0, 0, .null) := by decide +kernel
theorem f132_31 : am_tab 132 31 = some (.getfield 20, 3, 9, 1, 2003, .null) := by decide +kernel
theorem f132_34 : am_tab 132 34 = some (.invokevirtual 139, 3, 48, 1, 2194, .int 0) := by decide +kernel
theorem f132_37 : am_tab 132 37 = some (.ireturn, 1, 0, 0, 0, .null) := by decide +kernel
theorem f133_0 : am_tab 133 0 = some (.iload_n 1, 1, 0, 0, 0, .null) := by decide +kernel
theorem f133_1 : am_tab 133 1 = some (.invokestatic 378, 3, 140, 1, 4231, .int 2) := by decide +kernel
theorem f133_4 : am_tab 133 4 = some (.ifCond .ne 14, 3, 18, 0, 0, .null) := by decide +kernel
theorem f133_7 : am_tab 133 7 = some (.athrow, 0, 2, 1, 35, .null) := by decide +kernel
theorem f133_18 : am_tab 133 18 = some (.aload_n 0, 1, 0, 0, 0, .null) := by decide +kernel
theorem f133_19 : am_tab 133 19 = some (.getfield 66, 3, 9, 9, 2011, .null) := by decide +kernel
theorem f133_22 : am_tab 133 22 = some (.iload_n 1, 1, 0, 0, 0, .null) := by decide +kernel
theorem f133_23 : am_tab 133 23 = some (.invokevirtual 387, 3, 88, 2, 5008, .int 0) := by decide +kernel
theorem f133_26 : am_tab 133 26 = some (.ifCond .ne 14, 3, 40, 0, 0, .null) := by decide +kernel
theorem f133_29 : am_tab 133 29 = some (.athrow, 0, 1, 1, 36, .null) := by decide +kernel
theorem f133_40 : am_tab 133 40 = some (.aload_n 0, 1, 0, 0, 0, .null) := by decide +kernel
theorem f133_41 : am_tab 133 41 = some (.getfield 66, 3, 9, 9, 2011, .null) := by decide +kernel
theorem f133_44 : am_tab 133 44 = some (.iload_n 1, 1, 0, 0, 0, .null) := by decide +kernel
theorem f133_45 : am_tab 133 45 = some (.aload_n 0, 1, 0, 0, 0, .null) := by decide +kernel
theorem f133_46 : am_tab 133 46 = some (.getfield 20, 3, 9, 1, 2003, .null) := by decide +kernel
theorem f133_49 : am_tab 133 49 = some (.invokevirtual 392, 3, 90, 3, 5013, .int 0) := by decide +kernel
theorem f133_52 : am_tab 133 52 = some (.aload_n 0, 1, 0, 0, 0, .null) := by decide +kernel
theorem f133_53 : am_tab 133 53 = some (.getfield 59, 3, 9, 8, 2010, .null) := by decide +kernel
theorem f133_56 : am_tab 133 56 = some (.invokevirtual 114, 3, 37, 1, 3069, .int 0) := by decide +kernel
theorem f133_59 : am_tab 133 59 = some (.aload_n 0, 1, 0, 0, 0, .null) := by decide +kernel
theorem f133_60 : am_tab 133 60 = some (.getfield 20, 3, 9, 1, 2003, .null) := by decide +kernel
theorem f133_63 : am_tab 133 63 = some (.invokevirtual 139, 3, 48, 1, 2194, .int 0) := by decide +kernel
theorem f133_66 : am_tab 133 66 = some (.ireturn, 1, 0, 0, 0, .null) := by decide +kernel
theorem f134_0 : am_tab 134 0 = some (.iload_n 0, 1, 0, 0, 0, .null) := by decide +kernel
theorem f134_1 : am_tab 134 1 = some (.ifCond .lt 13, 3, 14, 0, 0, .null) := by decide +kernel
theorem f134_4 : am_tab 134 4 = some (.iload_n 0, 1, 0, 0, 0, .null) := by decide +kernel
theorem f134_5 : am_tab 134 5 = some (.bipush 48, 2, 0, 0, 0, .null) := by decide +kernel
theorem f134_7 : am_tab 134 7 = some (.if_icmp .ge 7, 3, 14, 0, 0, .null) := by decide +kernel
theorem f134_10 : am_tab 134 10 = some (.iconst 1, 1, 0, 0, 0, .null) := by decide +kernel
theorem f134_11 : am_tab 134 11 = some (.goto 4, 3, 15, 0, 0, .null) := by decide +kernel
theorem f134_14 : am_tab 134 14 = some (.iconst 0, 1, 0, 0, 0, .null) := by decide +kernel
theorem f134_15 : am_tab 134 15 = some (.ireturn, 1, 0, 0, 0, .null) := by decide +kernel
theorem f135_0 : am_tab 135 0 = some (.iload_n 0, 1, 0, 0, 0, .null) := by decide +kernel
theorem f135_1 : am_tab 135 1 = some (.iconst 1, 1, 0, 0, 0, .null) := by decide +kernel
theorem f135_2 : am_tab 135 2 = some (.if_icmp .lt 13, 3, 15, 0, 0, .null) := by decide +kernel
theorem f135_5 : am_tab 135 5 = some (.iload_n 0, 1, 0, 0, 0, .null) := by decide +kernel
theorem f135_6 : am_tab 135 6 = some (.bipush 48, 2, 0, 0, 0, .null) := by decide +kernel
theorem f135_8 : am_tab 135 8 = some (.if_icmp .ge 7, 3, 15, 0, 0, .null) := by decide +kernel
theorem f135_11 : am_tab 135 11 = some (.iconst 1, 1, 0, 0, 0, .null) := by decide +kernel
theorem f135_12 : am_tab 135 12 = some (.goto 4, 3, 16, 0, 0, .null) := by decide +kernel
theorem f135_15 : am_tab 135 15 = some (.iconst 0, 1, 0, 0, 0, .null) := by decide +kernel
theorem f135_16 : am_tab 135 16 = some (.ireturn, 1, 0, 0, 0, .null) := by decide +kernel
theorem f136_0 : am_tab 136 0 = some (.iload_n 0, 1, 0, 0, 0, .null) := by decide +kernel
theorem f136_1 : am_tab 136 1 = some (.iconst 1, 1, 0, 0, 0, .null) := by decide +kernel
theorem f136_2 : am_tab 136 2 = some (.if_icmp .lt 13, 3, 15, 0, 0, .null) := by decide +kernel
theorem f136_5 : am_tab 136 5 = some (.iload_n 0, 1, 0, 0, 0, .null) := by decide +kernel
theorem f136_6 : am_tab 136 6 = some (.bipush 99, 2, 0, 0, 0, .null) := by decide +kernel
theorem f136_8 : am_tab 136 8 = some (.if_icmp .gt 7, 3, 15, 0, 0, .null) := by decide +kernel
theorem f136_11 : am_tab 136 11 = some (.iconst 1, 1, 0, 0, 0, .null) := by decide +kernel
theorem f136_12 : am_tab 136 12 = some (.goto 4, 3, 16, 0, 0, .null) := by decide +kernel
theorem f136_15 : am_tab 136 15 = some (.iconst 0, 1, 0, 0, 0, .null) := by decide +kernel
theorem f136_16 : am_tab 136 16 = some (.ireturn, 1, 0, 0, 0, .null) := by decide +kernel
theorem f137_0 : am_tab 137 0 = some (.iload_n 0, 1, 0, 0, 0, .null) := by decide +kernel
theorem f137_1 : am_tab 137 1 = some (.bipush (-2), 2, 0, 0, 0, .null) := by decide +kernel
theorem f137_3 : am_tab 137 3 = some (.if_icmp .lt 12, 3, 15, 0, 0, .null) := by decide +kernel
theorem f137_6 : am_tab 137 6 = some (.iload_n 0, 1, 0, 0, 0, .null) := by decide +kernel
theorem f137_7 : am_tab 137 7 = some (.iconst 2, 1, 0, 0, 0, .null) := by decide +kernel
theorem f137_8 : am_tab 137 8 = some (.if_icmp .gt 7, 3, 15, 0, 0, .null) := by decide +kernel
theorem f137_11 : am_tab 137 11 = some (.iconst 1, 1, 0, 0, 0, .null) := by decide +kernel
theorem f137_12 : am_tab 137 12 = some (.goto 4, 3, 16, 0, 0, .null) := by decide +kernel
theorem f137_15 : am_tab 137 15 = some (.iconst 0, 1, 0, 0, 0, .null) := by decide +kernel
theorem f137_16 : am_tab 137 16 = some (.ireturn, 1, 0, 0, 0, .null) := by decide +kernel
theorem f138_0 : am_tab 138 0 = some (.iload_n 0, 1, 0, 0, 0, .null) := by decide +kernel
theorem f138_1 : am_tab 138 1 = some (.iconst 1, 1, 0, 0, 0, .null) := by decide +kernel
theorem f138_2 : am_tab 138 2 = some (.if_icmp .lt 13, 3, 15, 0, 0, .null) := by decide +kernel
theorem f138_5 : am_tab 138 5 = some (.iload_n 0, 1, 0, 0, 0, .null) := by decide +kernel
theorem f138_6 : am_tab 138 6 = some (.bipush 11, 2, 0, 0, 0, .null) := by decide +kernel
theorem f138_8 : am_tab 138 8 = some (.if_icmp .gt 7, 3, 15, 0, 0, .null) := by decide +kernel
theorem f138_11 : am_tab 138 11 = some (.iconst 1, 1, 0, 0, 0, .null) := by decide +kernel
theorem f138_12 : am_tab 138 12 = some (.goto 4, 3, 16, 0, 0, .null) := by decide +kernel
theorem f138_15 : am_tab 138 15 = some (.iconst 0, 1, 0, 0, 0, .null) := by decide +kernel
theorem f138_16 : am_tab 138 16 = some (.ireturn, 1, 0, 0, 0, .null) := by decide +kernel
theorem f139_0 : am_tab 139 0 = some (.iload_n 0, 1, 0, 0, 0, .null) := by decide +kernel
theorem f139_1 : am_tab 139 1 = some (.ifCond .lt 12, 3, 13, 0, 0, .null) := by decide +kernel
theorem f139_4 : am_tab 139 4 = some (.iload_n 0, 1, 0, 0, 0, .null) := by decide +kernel
theorem f139_5 : am_tab 139 5 = some (.iconst 3, 1, 0, 0, 0, .null) := by decide +kernel
theorem f139_6 : am_tab 139 6 = some (.if_icmp .ge 7, 3, 13, 0, 0, .null) := by decide +kernel
theorem f139_9 : am_tab 139 9 = some (.iconst 1, 1, 0, 0, 0, .null) := by decide +kernel
theorem f139_10 : am_tab 139 10 = some (.goto 4, 3, 14, 0, 0, .null) := by decide +kernel
theorem f139_13 : am_tab 139 13 = some (.iconst 0, 1, 0, 0, 0, .null) := by decide +kernel
theorem f139_14 : am_tab 139 14 = some (.ireturn, 1, 0, 0, 0, .null) := by decide +kernel
theorem f140_0 : am_tab 140 0 = some (.iload_n 0, 1, 0, 0, 0, .null) := by decide +kernel
theorem f140_1 : am_tab 140 1 = some (.ifCond .lt 12, 3, 13, 0, 0, .null) := by decide +kernel
theorem f140_4 : am_tab 140 4 = some (.iload_n 0, 1, 0, 0, 0, .null) := by decide +kernel
theorem f140_5 : am_tab 140 5 = some (.iconst 2, 1, 0, 0, 0, .null) := by decide +kernel
theorem f140_6 : am_tab 140 6 = some (.if_icmp .ge 7, 3, 13, 0, 0, .null) := by decide +kernel
theorem f140_9 : am_tab 140 9 = some (.iconst 1, 1, 0, 0, 0, .null) := by decide +kernel
theorem f140_10 : am_tab 140 10 = some (.goto 4, 3, 14, 0, 0, .null) := by decide +kernel
theorem f140_13 : am_tab 140 13 = some (.iconst 0, 1, 0, 0, 0, .null) := by decide +kernel
theorem f140_14 : am_tab 140 14 = some (.ireturn, 1, 0, 0, 0, .null) := by decide +kernel
theorem f141_0 : am_tab 141 0 = some (.lload_n 0, 1, 0, 0, 0, .null) := by decide +kernel
theorem f141_1 : am_tab 141 1 = some (.iload_n 2, 1, 0, 0, 0, .null) := by decide +kernel
theorem f141_2 : am_tab 141 2 = some (.lushr, 1, 0, 0, 0, .null) := by decide +kernel
theorem f141_3 : am_tab 141 3 = some (.lconst 1, 1, 0, 0, 0, .null) := by decide +kernel
theorem f141_4 : am_tab 141 4 = some (.land, 1, 0, 0, 0, .null) := by decide +kernel
theorem f141_5 : am_tab 141 5 = some (.l2i, 1, 0, 0, 0, .null) := by decide +kernel
theorem f141_6 : am_tab 141 6 = some (.ireturn, 1, 0, 0, 0, .null) := by decide +kernel
theorem f142_0 : am_tab 142 0 = some (.aload_n 0, 1, 0, 0, 0, .null) := by decide +kernel
theorem f142_1 : am_tab 142 1 = some (.invokespecial 1, 3, 0, 0, 5023, .int 6) := by decide +kernel
theorem f142_4 : am_tab 142 4 = some (.aload_n 0, 1, 0, 0, 0, .null) := by decide +kernel
theorem f142_5 : am_tab 142 5 = some (.sipush 270, 3, 0, 0, 0, .null) := by decide +kernel
theorem f142_8 : am_tab 142 8 = some (.newarray .int, 2, 0, 0, 1093, .null) := by decide +kernel
theorem f142_10 : am_tab 142 10 = some (.putfield 7, 3, 10, 0, 5028, .null) := by decide +kernel
theorem f142_13 : am_tab 142 13 = some (.aload_n 0, 1, 0, 0, 0, .null) := by decide +kernel
theorem f142_14 : am_tab 142 14 = some (.sipush 3780, 3, 0, 0, 0, .null) := by decide +kernel
theorem f142_17 : am_tab 142 17 = some (.newarray .int, 2, 0, 0, 1093, .null) := by decide +kernel
theorem f142_19 : am_tab 142 19 = some (.putfield 13, 3, 10, 1, 5029, .null) := by decide +kernel
theorem f142_22 : am_tab 142 22 = some (.aload_n 0, 1, 0, 0, 0, .null) := by decide +kernel
theorem f142_23 : am_tab 142 23 = some (.sipush 540, 3, 0, 0, 0, .null) := by decide +kernel
theorem f142_26 : am_tab 142 26 = some (.newarray .int, 2, 0, 0, 1093, .null) := by decide +kernel
theorem f142_28 : am_tab 142 28 = some (.putfield 16, 3, 10, 3, 5031, .null) := by decide +kernel
theorem f142_31 : am_tab 142 31 = some (.aload_n 0, 1, 0, 0, 0, .null) := by decide +kernel
theorem f142_32 : am_tab 142 32 = some (.iconst 2, 1, 0, 0, 0, .null) := by decide +kernel
theorem f142_33 : am_tab 142 33 = some (.newarray .boolean, 2, 2, 0, 1211, .null) := by decide +kernel
theorem f142_35 : am_tab 142 35 = some (.putfield 19, 3, 10, 4, 5032, .null) := by decide +kernel
theorem f142_38 : am_tab 142 38 = some (.aload_n 0, 1, 0, 0, 0, .null) := by decide +kernel
theorem f142_39 : am_tab 142 39 = some (.sipush 270, 3, 0, 0, 0, .null) := by decide +kernel
theorem f142_42 : am_tab 142 42 = some (.newarray .int, 2, 0, 0, 1093, .null) := by decide +kernel
theorem f142_44 : am_tab 142 44 = some (.putfield 23, 3, 10, 5, 5033, .null) := by decide +kernel
theorem f142_47 : am_tab 142 47 = some (.aload_n 0, 1, 0, 0, 0, .null) := by decide +kernel
theorem f142_48 : am_tab 142 48 = some (.bipush 48, 2, 0, 0, 0, .null) := by decide +kernel
theorem f142_50 : am_tab 142 50 = some (.newarray .boolean, 2, 2, 0, 1211, .null) := by decide +kernel
theorem f142_52 : am_tab 142 52 = some (.putfield 26, 3, 10, 8, 5036, .null) := by decide +kernel
theorem f142_55 : am_tab 142 55 = some (.aload_n 0, 1, 0, 0, 0, .null) := by decide +kernel
theorem f142_56 : am_tab 142 56 = some (.bipush 64, 2, 0, 0, 0, .null) := by decide +kernel
theorem f142_58 : am_tab 142 58 = some (.newarray .int, 2, 0, 0, 1093, .null) := by decide +kernel
theorem f142_60 : am_tab 142 60 = some (.putfield 29, 3, 10, 9, 5037, .null) := by decide +kernel
theorem f142_63 : am_tab 142 63 = some (.aload_n 0, 1, 0, 0, 0, .null) := by decide +kernel
theorem f142_64 : am_tab 142 64 = some (.bipush 64, 2, 0, 0, 0, .null) := by decide +kernel
theorem f142_66 : am_tab 142 66 = some (.newarray .int, 2, 0, 0, 1093, .null) := by decide +kernel
theorem f142_68 : am_tab 142 68 = some (.putfield 32, 3, 10, 10, 5038, .null) := by decide +kernel
theorem f142_71 : am_tab 142 71 = some (.aload_n 0, 1, 0, 0, 0, .null) := by decide +kernel
theorem f142_72 : am_tab 142 72 = some (.bipush 64, 2, 0, 0, 0, .null) := by decide +kernel
theorem f142_74 : am_tab 142 74 = some (.newarray .int, 2, 0, 0, 1093, .null) := by decide +kernel
theorem f142_76 : am_tab 142 76 = some (.putfield 35, 3, 10, 11, 5039, .null) := by decide +kernel
theorem f142_79 : am_tab 142 79 = some (.aload_n 0, 1, 0, 0, 0, .null) := by decide +kernel
theorem f142_80 : am_tab 142 80 = some (.bipush 120, 2, 0, 0, 0, .null) := by decide +kernel
theorem f142_82 : am_tab 142 82 = some (.newarray .int, 2, 0, 0, 1093, .null) := by decide +kernel
theorem f142_84 : am_tab 142 84 = some (.putfield 38, 3, 10, 13, 5041, .null) := by decide +kernel
theorem f142_87 : am_tab 142 87 = some (.aload_n 0, 1, 0, 0, 0, .null) := by decide +kernel
theorem f142_88 : am_tab 142 88 = some (.sipush 2401, 3, 0, 0, 0, .null) := by decide +kernel
theorem f142_91 : am_tab 142 91 = some (.newarray .int, 2, 0, 0, 1093, .null) := by decide +kernel
theorem f142_93 : am_tab 142 93 = some (.putfield 41, 3, 10, 18, 5046, .null) := by decide +kernel
theorem f142_96 : am_tab 142 96 = some (.aload_n 0, 1, 0, 0, 0, .null) := by decide +kernel
theorem f142_97 : am_tab 142 97 = some (.sipush 4753, 3, 0, 0, 0, .null) := by decide +kernel
theorem f142_100 : am_tab 142 100 = some (.newarray .boolean, 2, 2, 0, 1211, .null) := by decide +kernel
theorem f142_102 : am_tab 142 102 = some (.putfield 44, 3, 10, 19, 5047, .null) := by decide +kernel
theorem f142_105 : am_tab 142 105 = some (.aload_n 0, 1, 0, 0, 0, .null) := by decide +kernel
theorem f142_106 : am_tab 142 106 = some (.invokevirtual 47, 3, 146, 1, 5024, .int 0) := by decide +kernel
theorem f142_109 : am_tab 142 109 = some (.return_, 1, 0, 0, 0, .null) := by decide +kernel
theorem f143_0 : am_tab 143 0 = some (.aload_n 0, 1, 0, 0, 0, .null) := by decide +kernel
theorem f143_1 : am_tab 143 1 = some (.getfield 50, 3, 10, 6, 5034, .null) := by decide +kernel
theorem f143_4 : am_tab 143 4 = some (.ireturn, 1, 0, 0, 0, .null) := by decide +kernel
theorem f144_0 : am_tab 144 0 = some (.aload_n 0, 1, 0, 0, 0, .null) := by decide +kernel
theorem f144_1 : am_tab 144 1 = some (.iload_n 1, 1, 0, 0, 0, .null) := by decide +kernel
theorem f144_2 : am_tab 144 2 = some (.putfield 50, 3, 10, 6, 5034, .null) := by decide +kernel
theorem f144_5 : am_tab 144 5 = some (.iconst 0, 1, 0, 0, 0, .null) := by decide +kernel
theorem f144_6 : am_tab 144 6 = some (.ireturn, 1, 0, 0, 0, .null) := by decide +kernel
theorem f145_0 : am_tab 145 0 = some (.iload_n 0, 1, 0, 0, 0, .null) := by decide +kernel
theorem f145_1 : am_tab 145 1 = some (.iload_n 1, 1, 0, 0, 0, .null) := by decide +kernel
theorem f145_2 : am_tab 145 2 = some (.if_icmp .lt 12, 3, 14, 0, 0, .null) := by decide +kernel
theorem f145_5 : am_tab 145 5 = some (.iload_n 0, 1, 0, 0, 0, .null) := by decide +kernel
theorem f145_6 : am_tab 145 6 = some (.iload_n 2, 1, 0, 0, 0, .null) := by decide +kernel
theorem f145_7 : am_tab 145 7 = some (.if_icmp .gt 7, 3, 14, 0, 0, .null) := by decide +kernel
theorem f145_10 : am_tab 145 10 = some (.iconst 1, 1, 0, 0, 0, .null) := by decide +kernel
theorem f145_11 : am_tab 145 11 = some (.goto 4, 3, 15, 0, 0, .null) := by decide +kernel
theorem f145_14 : am_tab 145 14 = some (.iconst 0, 1, 0, 0, 0, .null) := by decide +kernel
theorem f145_15 : am_tab 145 15 = some (.ireturn, 1, 0, 0, 0, .null) := by decide +kernel
theorem f146_0 : am_tab 146 0 = some (.iconst 0, 1, 0, 0, 0, .null) := by decide +kernel
theorem f146_1 : am_tab 146 1 = some (.istore_n 1, 1, 0, 0, 0, .null) := by decide +kernel
theorem f146_2 : am_tab 146 2 = some (.iload_n 1, 1, 0, 0, 0, .null) := by decide +kernel
theorem f146_3 : am_tab 146 3 = some (.sipush 270, 3, 0, 0, 0, .null) := by decide +kernel
theorem f146_6 : am_tab 146 6 = some (.if_icmp .ge 26, 3, 32, 0, 0, .null) := by decide +kernel
theorem f146_9 : am_tab 146 9 = some (.aload_n 0, 1, 0, 0, 0, .null) := by decide +kernel
theorem f146_10 : am_tab 146 10 = some (.getfield 7, 3, 10, 0, 5028, .null) := by decide +kernel
theorem f146_13 : am_tab 146 13 = some (.iload_n 1, 1, 0, 0, 0, .null) := by decide +kernel
theorem f146_14 : am_tab 146 14 = some (.iload_n 1, 1, 0, 0, 0, .null) := by decide +kernel
theorem f146_15 : am_tab 146 15 = some (.bipush 48, 2, 0, 0, 0, .null) := by decide +kernel
theorem f146_17 : am_tab 146 17 = some (.if_icmp .ge 7, 3, 24, 0, 0, .null) := by decide +kernel
theorem f146_20 : am_tab 146 20 = some (.iconst 1, 1, 0, 0, 0, .null) := by decide +kernel
theorem f146_21 : am_tab 146 21 = some (.goto 4, 3, 25, 0, 0, .null) := by decide +kernel
theorem f146_24 : am_tab 146 24 = some (.iconst 0, 1, 0, 0, 0, .null) := by decide +kernel
theorem f146_25 : am_tab 146 25 = some (.iastore, 1, 0, 0, 0, .null) := by decide +kernel
theorem f146_26 : am_tab 146 26 = some (.iinc 1 1, 3, 0, 0, 0, .null) := by decide +kernel
theorem f146_29 : am_tab 146 29 = some (.goto (-27), 3, 2, 0, 0, .null) := by decide +kernel
theorem f146_32 : am_tab 146 32 = some (.aload_n 0, 1, 0, 0, 0, .null) := by decide +kernel
theorem f146_33 : am_tab 146 33 = some (.getfield 7, 3, 10, 0, 5028, .null) := by decide +kernel
theorem f146_36 : am_tab 146 36 = some (.sipush 269, 3, 0, 0, 0, .null) := by decide +kernel
theorem f146_39 : am_tab 146 39 = some (.iconst 1, 1, 0, 0, 0, .null) := by decide +kernel
theorem f146_40 : am_tab 146 40 = some (.iastore, 1, 0, 0, 0, .null) := by decide +kernel
theorem f146_41 : am_tab 146 41 = some (.return_, 1, 0, 0, 0, .null) := by decide +kernel
theorem f147_0 : am_tab 147 0 = some (.iload_n 0, 1, 0, 0, 0, .null) := by decide +kernel
theorem f147_1 : am_tab 147 1 = some (.iconst 0, 1, 0, 0, 0, .null) := by decide +kernel
theorem f147_2 : am_tab 147 2 = some (.bipush 47, 2, 0, 0, 0, .null) := by decide +kernel
theorem f147_4 : am_tab 147 4 = some (.invokestatic 54, 3, 145, 3, 5097, .int 2) := by decide +kernel
theorem f147_7 : am_tab 147 7 = some (.ireturn, 1, 0, 0, 0, .null) := by decide +kernel
theorem f148_0 : am_tab 148 0 = some (.aload_n 0, 1, 0, 0, 0, .null) := by decide +kernel
theorem f148_1 : am_tab 148 1 = some (.getfield 58, 3, 10, 2, 5030, .null) := by decide +kernel
theorem f148_4 : am_tab 148 4 = some (.bipush 14, 2, 0, 0, 0, .null) := by decide +kernel
theorem f148_6 : am_tab 148 6 = some (.if_icmp .ne 44, 3, 50, 0, 0, .null) := by decide +kernel
theorem f148_9 : am_tab 148 9 = some (.iconst 0, 1, 0, 0, 0, .null) := by decide +kernel
theorem f148_10 : am_tab 148 10 = some (.istore_n 1, 1, 0, 0, 0, .null) := by decide +kernel
theorem f148_11 : am_tab 148 11 = some (.iload_n 1, 1, 0, 0, 0, .null) := by decide +kernel
theorem f148_12 : am_tab 148 12 = some (.sipush 3510, 3, 0, 0, 0, .null) := by decide +kernel
theorem f148_15 : am_tab 148 15 = some (.if_icmp .ge 25, 3, 40, 0, 0, .null) := by decide +kernel
theorem f148_18 : am_tab 148 18 = some (.aload_n 0, 1, 0, 0, 0, .null) := by decide +kernel
theorem f148_19 : am_tab 148 19 = some (.getfield 13, 3, 10, 1, 5029, .null) := by decide +kernel
theorem f148_22 : am_tab 148 22 = some (.iload_n 1, 1, 0, 0, 0, .null) := by decide +kernel
theorem f148_23 : am_tab 148 23 = some (.aload_n 0, 1, 0, 0, 0, .null) := by decide +kernel
theorem f148_24 : am_tab 148 24 = some (.getfield 13, 3, 10, 1, 5029, .null) := by decide +kernel
theorem f148_27 : am_tab 148 27 = some (.iload_n 1, 1, 0, 0, 0, .null) := by decide +kernel
theorem f148_28 : am_tab 148 28 = some (.sipush 270, 3, 0, 0, 0, .null) := by decide +kernel
theorem f148_31 : am_tab 148 31 = some (.iadd, 1, 0, 0, 0, .null) := by decide +kernel
theorem f148_32 : am_tab 148 32 = some (.iaload, 1, 0, 0, 0, .null) := by decide +kernel
theorem f148_33 : am_tab 148 33 = some (.iastore, 1, 0, 0, 0, .null) := by decide +kernel
theorem f148_34 : am_tab 148 34 = some (.iinc 1 1, 3, 0, 0, 0, .null) := by decide +kernel
theorem f148_37 : am_tab 148 37 = some (.goto (-26), 3, 11, 0, 0, .null) := by decide +kernel
theorem f148_40 : am_tab 148 40 = some (.aload_n 0, 1, 0, 0, 0, .null) := by decide +kernel
theorem f148_41 : am_tab 148 41 = some (.dup, 1, 0, 0, 0, .null) := by decide +kernel
theorem f148_42 : am_tab 148 42 = some (.getfield 58, 3, 10, 2, 5030, .null) := by decide +kernel
theorem f148_45 : am_tab 148 45 = some (.iconst 1, 1, 0, 0, 0, .null) := by decide +kernel
theorem f148_46 : am_tab 148 46 = some (.isub, 1, 0, 0, 0, .null) := by decide +kernel
theorem f148_47 : am_tab 148 47 = some (.putfield 58, 3, 10, 2, 5030, .null) := by decide +kernel
theorem f148_50 : am_tab 148 50 = some (.iconst 0, 1, 0, 0, 0, .null) := by decide +kernel
theorem f148_51 : am_tab 148 51 = some (.istore_n 1, 1, 0, 0, 0, .null) := by decide +kernel
theorem f148_52 : am_tab 148 52 = some (.iload_n 1, 1, 0, 0, 0, .null) := by decide +kernel
theorem f148_53 : am_tab 148 53 = some (.sipush 270, 3, 0, 0, 0, .null) := by decide +kernel
theorem f148_56 : am_tab 148 56 = some (.if_icmp .ge 30, 3, 86, 0, 0, .null) := by decide +kernel
theorem f148_59 : am_tab 148 59 = some (.aload_n 0, 1, 0, 0, 0, .null) := by decide +kernel
theorem f148_60 : am_tab 148 60 = some (.getfield 13, 3, 10, 1, 5029, .null) := by decide +kernel
theorem f148_63 : am_tab 148 63 = some (.sipush 270, 3, 0, 0, 0, .null) := by decide +kernel
theorem f148_66 : am_tab 148 66 = some (.aload_n 0, 1, 0, 0, 0, .null) := by decide +kernel
theorem f148_67 : am_tab 148 67 = some (.getfield 58, 3, 10, 2, 5030, .null) := by decide +kernel
theorem f148_70 : am_tab 148 70 = some (.imul, 1, 0, 0, 0, .null) := by decide +kernel
theorem f148_71 : am_tab 148 71 = some (.iload_n 1, 1, 0, 0, 0, .null) := by decide +kernel
theorem f148_72 : am_tab 148 72 = some (.iadd, 1, 0, 0, 0, .null) := by decide +kernel
theorem f148_73 : am_tab 148 73 = some (.aload_n 0, 1, 0, 0, 0, .null) := by decide +kernel
theorem f148_74 : am_tab 148 74 = some (.getfield 7, 3, 10, 0, 5028, .null) := by decide +kernel
theorem f148_77 : am_tab 148 77 = some (.iload_n 1, 1, 0, 0, 0, .null) := by decide +kernel
theorem f148_78 : am_tab 148 78 = some (.iaload, 1, 0, 0, 0, .null) := by decide +kernel
theorem f148_79 : am_tab 148 79 = some (.iastore, 1, 0, 0, 0, .null) := by decide +kernel
theorem f148_80 : am_tab 148 80 = some (.iinc 1 1, 3, 0, 0, 0, .null) := by decide +kernel
theorem f148_83 : am_tab 148 83 = some (.goto (-31), 3, 52, 0, 0, .null) := by decide +kernel
theorem f148_86 : am_tab 148 86 = some (.aload_n 0, 1, 0, 0, 0, .null) := by decide +kernel
theorem f148_87 : am_tab 148 87 = some (.dup, 1, 0, 0, 0, .null) := by decide +kernel
theorem f148_88 : am_tab 148 88 = some (.getfield 58, 3, 10, 2, 5030, .null) := by decide +kernel
theorem f148_91 : am_tab 148 91 = some (.iconst 1, 1, 0, 0, 0, .null) := by decide +kernel
theorem f148_92 : am_tab 148 92 = some (.iadd, 1, 0, 0, 0, .null) := by decide +kernel
theorem f148_93 : am_tab 148 93 = some (.putfield 58, 3, 10, 2, 5030, .null) := by decide +kernel
theorem f148_96 : am_tab 148 96 = some (.return_, 1, 0, 0, 0, .null) := by decide +kernel
theorem f149_0 : am_tab 149 0 = some (.iconst 0, 1, 0, 0, 0, .null) := by decide +kernel
theorem f149_1 : am_tab 149 1 = some (.istore_n 1, 1, 0, 0, 0, .null) := by decide +kernel
theorem f149_2 : am_tab 149 2 = some (.iload_n 1, 1, 0, 0, 0, .null) := by decide +kernel
theorem f149_3 : am_tab 149 3 = some (.sipush 270, 3, 0, 0, 0, .null) := by decide +kernel
theorem f149_6 : am_tab 149 6 = some (.if_icmp .ge 21, 3, 27, 0, 0, .null) := by decide +kernel
theorem f149_9 : am_tab 149 9 = some (.aload_n 0, 1, 0, 0, 0, .null) := by decide +kernel
theorem f149_10 : am_tab 149 10 = some (.getfield 23, 3, 10, 5, 5033, .null) := by decide +kernel
theorem f149_13 : am_tab 149 13 = some (.iload_n 1, 1, 0, 0, 0, .null) := by decide +kernel
theorem f149_14 : am_tab 149 14 = some (.aload_n 0, 1, 0, 0, 0, .null) := by decide +kernel
theorem f149_15 : am_tab 149 15 = some (.getfield 7, 3, 10, 0, 5028, .null) := by decide +kernel
theorem f149_18 : am_tab 149 18 = some (.iload_n 1, 1, 0, 0, 0, .null) := by decide +kernel
theorem f149_19 : am_tab 149 19 = some (.iaload, 1, 0, 0, 0, .null) := by decide +kernel
theorem f149_20 : am_tab 149 20 = some (.iastore, 1, 0, 0, 0, .null) := by decide +kernel
theorem f149_21 : am_tab 149 21 = some (.iinc 1 1, 3, 0, 0, 0, .null) := by decide +kernel
theorem f149_24 : am_tab 149 24 = some (.goto (-22), 3, 2, 0, 0, .null) := by decide +kernel
theorem f149_27 : am_tab 149 27 = some (.return_, 1, 0, 0, 0, .null) := by decide +kernel
theorem f150_0 : am_tab 150 0 = some (.iconst 0, 1, 0, 0, 0, .null) := by decide +kernel
theorem f150_1 : am_tab 150 1 = some (.istore_n 1, 1, 0, 0, 0, .null) := by decide +kernel
theorem f150_2 : am_tab 150 2 = some (.iload_n 1, 1, 0, 0, 0, .null) := by decide +kernel
theorem f150_3 : am_tab 150 3 = some (.sipush 270, 3, 0, 0, 0, .null) := by decide +kernel
theorem f150_6 : am_tab 150 6 = some (.if_icmp .ge 21, 3, 27, 0, 0, .null) := by decide +kernel
theorem f150_9 : am_tab 150 9 = some (.aload_n 0, 1, 0, 0, 0, .null) := by decide +kernel
theorem f150_10 : am_tab 150 10 = some (.getfield 7, 3, 10, 0, 5028, .null) := by decide +kernel
theorem f150_13 : am_tab 150 13 = some (.iload_n 1, 1, 0, 0, 0, .null) := by decide +kernel
theorem f150_14 : am_tab 150 14 = some (.aload_n 0, 1, 0, 0, 0, .null) := by decide +kernel
theorem f150_15 : am_tab 150 15 = some (.getfield 23, 3, 10, 5, 5033, .null) := by decide +kernel
theorem f150_18 : am_tab 150 18 = some (.iload_n 1, 1, 0, 0, 0, .null) := by decide +kernel
theorem f150_19 : am_tab 150 19 = some (.iaload, 1, 0, 0, 0, .null) := by decide +kernel
theorem f150_20 : am_tab 150 20 = some (.iastore, 1, 0, 0, 0, .null) := by decide +kernel
theorem f150_21 : am_tab 150 21 = some (.iinc 1 1, 3, 0, 0, 0, .null) := by decide +kernel
theorem f150_24 : am_tab 150 24 = some (.goto (-22), 3, 2, 0, 0, .null) := by decide +kernel
theorem f150_27 : am_tab 150 27 = some (.return_, 1, 0, 0, 0, .null) := by decide +kernel
theorem f151_0 : am_tab 151 0 = some (.iconst 1, 1, 0, 0, 0, .null) := by decide +kernel
theorem f151_1 : am_tab 151 1 = some (.istore_n 1, 1, 0, 0, 0, .null) := by decide +kernel
theorem f151_2 : am_tab 151 2 = some (.iconst 1, 1, 0, 0, 0, .null) := by decide +kernel
theorem f151_3 : am_tab 151 3 = some (.istore_n 2, 1, 0, 0, 0, .null) := by decide +kernel
theorem f151_4 : am_tab 151 4 = some (.iload_n 2, 1, 0, 0, 0, .null) := by decide +kernel
theorem f151_5 : am_tab 151 5 = some (.bipush 48, 2, 0, 0, 0, .null) := by decide +kernel
theorem f151_7 : am_tab 151 7 = some (.if_icmp .ge 22, 3, 29, 0, 0, .null) := by decide +kernel
theorem f151_10 : am_tab 151 10 = some (.iload_n 1, 1, 0, 0, 0, .null) := by decide +kernel
theorem f151_11 : am_tab 151 11 = some (.aload_n 0, 1, 0, 0, 0, .null) := by decide +kernel
theorem f151_12 : am_tab 151 12 = some (.getfield 7, 3, 10, 0, 5028, .null) := by decide +kernel
theorem f151_15 : am_tab 151 15 = some (.sipush 144, 3, 0, 0, 0, .null) := by decide +kernel
theorem f151_18 : am_tab 151 18 = some (.iload_n 2, 1, 0, 0, 0, .null) := by decide +kernel
theorem f151_19 : am_tab 151 19 = some (.iadd, 1, 0, 0, 0, .null) := by decide +kernel
theorem f151_20 : am_tab 151 20 = some (.iaload, 1, 0, 0, 0, .null) := by decide +kernel
theorem f151_21 : am_tab 151 21 = some (.iadd, 1, 0, 0, 0, .null) := by decide +kernel
theorem f151_22 : am_tab 151 22 = some (.istore_n 1, 1, 0, 0, 0, .null) := by decide +kernel
theorem f151_23 : am_tab 151 23 = some (.iinc 2 1, 3, 0, 0, 0, .null) := by decide +kernel
theorem f151_26 : am_tab 151 26 = some (.goto (-22), 3, 4, 0, 0, .null) := by decide +kernel
theorem f151_29 : am_tab 151 29 = some (.iload_n 1, 1, 0, 0, 0, .null) := by decide +kernel
theorem f151_30 : am_tab 151 30 = some (.ireturn, 1, 0, 0, 0, .null) := by decide +kernel
theorem f152_0 : am_tab 152 0 = some (.iload_n 1, 1, 0, 0, 0, .null) := by decide +kernel
theorem f152_1 : am_tab 152 1 = some (.iconst 0, 1, 0, 0, 0, .null) := by decide +kernel
theorem f152_2 : am_tab 152 2 = some (.aload_n 0, 1, 0, 0, 0, .null) := by decide +kernel
theorem f152_3 : am_tab 152 3 = some (.invokevirtual 61, 3, 151, 1, 5166, .int 0) := by decide +kernel
theorem f152_6 : am_tab 152 6 = some (.iconst 1, 1, 0, 0, 0, .null) := by decide +kernel
theorem f152_7 : am_tab 152 7 = some (.isub, 1, 0, 0, 0, .null) := by decide +kernel
theorem f152_8 : am_tab 152 8 = some (.invokestatic 54, 3, 145, 3, 5097, .int 2) := by decide +kernel
theorem f152_11 : am_tab 152 11 = some (.ireturn, 1, 0, 0, 0, .null) := by decide +kernel
theorem f153_0 : am_tab 153 0 = some (.iconst 0, 1, 0, 0, 0, .null) := by decide +kernel
theorem f153_1 : am_tab 153 1 = some (.istore_n 2, 1, 0, 0, 0, .null) := by decide +kernel
theorem f153_2 : am_tab 153 2 = some (.iconst 1, 1, 0, 0, 0, .null) := by decide +kernel
theorem f153_3 : am_tab 153 3 = some (.istore_n 3, 1, 0, 0, 0, .null) := by decide +kernel
theorem f153_4 : am_tab 153 4 = some (.iload_n 3, 1, 0, 0, 0, .null) := by decide +kernel
theorem f153_5 : am_tab 153 5 = some (.iload_n 1, 1, 0, 0, 0, .null) := by decide +kernel
theorem f153_6 : am_tab 153 6 = some (.if_icmp .gt 22, 3, 28, 0, 0, .null) := by decide +kernel
theorem f153_9 : am_tab 153 9 = some (.iload_n 2, 1, 0, 0, 0, .null) := by decide +kernel
theorem f153_10 : am_tab 153 10 = some (.aload_n 0, 1, 0, 0, 0, .null) := by decide +kernel
theorem f153_11 : am_tab 153 11 = some (.getfield 7, 3, 10, 0, 5028, .null) := by decide +kernel
theorem f153_14 : am_tab 153 14 = some (.sipush 144, 3, 0, 0, 0, .null) := by decide +kernel
theorem f153_17 : am_tab 153 17 = some (.iload_n 3, 1, 0, 0, 0, .null) := by decide +kernel
theorem f153_18 : am_tab 153 18 = some (.iadd, 1, 0, 0, 0, .null) := by decide +kernel
theorem f153_19 : am_tab 153 19 = some (.iaload, 1, 0, 0, 0, .null) := by decide +kernel
theorem f153_20 : am_tab 153 20 = some (.iadd, 1, 0, 0, 0, .null) := by decide +kernel
theorem f153_21 : am_tab 153 21 = some (.istore_n 2, 1, 0, 0, 0, .null) := by decide +kernel
theorem f153_22 : am_tab 153 22 = some (.iinc 3 1, 3, 0, 0, 0, .null) := by decide +kernel
theorem f153_25 : am_tab 153 25 = some (.goto (-21), 3, 4, 0, 0, .null) := by decide +kernel
theorem f153_28 : am_tab 153 28 = some (.iload_n 2, 1, 0, 0, 0, .null) := by decide +kernel
theorem f153_29 : am_tab 153 29 = some (.ireturn, 1, 0, 0, 0, .null) := by decide +kernel
theorem f154_0 : am_tab 154 0 = some (.iconst 0, 1, 0, 0, 0, .null) := by decide +kernel
theorem f154_1 : am_tab 154 1 = some (.istore_n 2, 1, 0, 0, 0, .null) := by decide +kernel
theorem f154_2 : am_tab 154 2 = some (.iload_n 2, 1, 0, 0, 0, .null) := by decide +kernel
theorem f154_3 : am_tab 154 3 = some (.bipush 48, 2, 0, 0, 0, .null) := by decide +kernel
theorem f154_5 : am_tab 154 5 = some (.if_icmp .ge 18, 3, 23, 0, 0, .null) := by decide +kernel
theorem f154_8 : am_tab 154 8 = some (.aload_n 0, 1, 0, 0, 0, .null) := by decide +kernel
theorem f154_9 : am_tab 154 9 = some (.iload_n 2, 1, 0, 0, 0, .null) := by decide +kernel
theorem f154_10 : am_tab 154 10 = some (.invokevirtual 65, 3, 153, 2, 5206, .int 0) := by decide +kernel
theorem f154_13 : am_tab 154 13 = some (.iload_n 1, 1, 0, 0, 0, .null) := by decide +kernel
theorem f154_14 : am_tab 154 14 = some (.if_icmp .ge 9, 3, 23, 0, 0, .null) := by decide +kernel
theorem f154_17 : am_tab 154 17 = some (.iinc 2 1, 3, 0, 0, 0, .null) := by decide +kernel
theorem f154_20 : am_tab 154 20 = some (.goto (-18), 3, 2, 0, 0, .null) := by decide +kernel
theorem f154_23 : am_tab 154 23 = some (.iload_n 2, 1, 0, 0, 0, .null) := by decide +kernel
theorem f154_24 : am_tab 154 24 = some (.ireturn, 1, 0, 0, 0, .null) := by decide +kernel
theorem f155_0 : am_tab 155 0 = some (.iconst 0, 1, 0, 0, 0, .null) := by decide +kernel
theorem f155_1 : am_tab 155 1 = some (.istore 4, 2, 0, 0, 0, .null) := by decide +kernel
theorem f155_3 : am_tab 155 3 = some (.iload_n 2, 1, 0, 0, 0, .null) := by decide +kernel
theorem f155_4 : am_tab 155 4 = some (.istore 5, 2, 0, 0, 0, .null) := by decide +kernel
theorem f155_6 : am_tab 155 6 = some (.iload 5, 2, 0, 0, 0, .null) := by decide +kernel
theorem f155_8 : am_tab 155 8 = some (.iload_n 3, 1, 0, 0, 0, .null) := by decide +kernel
theorem f155_9 : am_tab 155 9 = some (.if_icmp .ge 23, 3, 32, 0, 0, .null) := by decide +kernel
theorem f155_12 : am_tab 155 12 = some (.iload 4, 2, 0, 0, 0, .null) := by decide +kernel
theorem f155_14 : am_tab 155 14 = some (.aload_n 0, 1, 0, 0, 0, .null) := by decide +kernel
theorem f155_15 : am_tab 155 15 = some (.getfield 7, 3, 10, 0, 5028, .null) := by decide +kernel
theorem f155_18 : am_tab 155 18 = some (.iload_n 1, 1, 0, 0, 0, .null) := by decide +kernel
theorem f155_19 : am_tab 155 19 = some (.iload 5, 2, 0, 0, 0, .null) := by decide +kernel
theorem f155_21 : am_tab 155 21 = some (.iadd, 1, 0, 0, 0, .null) := by decide +kernel
theorem f155_22 : am_tab 155 22 = some (.iaload, 1, 0, 0, 0, .null) := by decide +kernel
theorem f155_23 : am_tab 155 23 = some (.iadd, 1, 0, 0, 0, .null) := by decide +kernel
theorem f155_24 : am_tab 155 24 = some (.istore 4, 2, 0, 0, 0, .null) := by decide +kernel
theorem f155_26 : am_tab 155 26 = some (.iinc 5 1, 3, 0, 0, 0, .null) := by decide +kernel
theorem f155_29 : am_tab 155 29 = some (.goto (-23), 3, 6, 0, 0, .null) := by decide +kernel
theorem f155_32 : am_tab 155 32 = some (.iload 4, 2, 0, 0, 0, .null) := by decide +kernel
theorem f155_34 : am_tab 155 34 = some (.ireturn, 1, 0, 0, 0, .null) := by decide +kernel
theorem f156_0 : am_tab 156 0 = some (.aload_n 0, 1, 0, 0, 0, .null) := by decide +kernel
theorem f156_1 : am_tab 156 1 = some (.iconst 0, 1, 0, 0, 0, .null) := by decide +kernel
theorem f156_2 : am_tab 156 2 = some (.iload_n 1, 1, 0, 0, 0, .null) := by decide +kernel
theorem f156_3 : am_tab 156 3 = some (.iload_n 2, 1, 0, 0, 0, .null) := by decide +kernel
theorem f156_4 : am_tab 156 4 = some (.invokevirtual 69, 3, 155, 4, 5230, .int 0) := by decide +kernel
theorem f156_7 : am_tab 156 7 = some (.ireturn, 1, 0, 0, 0, .null) := by decide +kernel
theorem f157_0 : am_tab 157 0 = some (.iconst 0, 1, 0, 0, 0, .null) := by decide +kernel
theorem f157_1 : am_tab 157 1 = some (.istore_n 3, 1, 0, 0, 0, .null) := by decide +kernel
theorem f157_2 : am_tab 157 2 = some (.iload_n 1, 1, 0, 0, 0, .null) := by decide +kernel
theorem f157_3 : am_tab 157 3 = some (.istore 4, 2, 0, 0, 0, .null) := by decide +kernel
theorem f157_5 : am_tab 157 5 = some (.iload 4, 2, 0, 0, 0, .null) := by decide +kernel
theorem f157_7 : am_tab 157 7 = some (.iload_n 2, 1, 0, 0, 0, .null) := by decide +kernel
theorem f157_8 : am_tab 157 8 = some (.if_icmp .ge 39, 3, 47, 0, 0, .null) := by decide +kernel
theorem f157_11 : am_tab 157 11 = some (.iload_n 3, 1, 0, 0, 0, .null) := by decide +kernel
theorem f157_12 : am_tab 157 12 = some (.aload_n 0, 1, 0, 0, 0, .null) := by decide +kernel
theorem f157_13 : am_tab 157 13 = some (.getfield 7, 3, 10, 0, 5028, .null) := by decide +kernel
theorem f157_16 : am_tab 157 16 = some (.bipush 48, 2, 0, 0, 0, .null) := by decide +kernel
theorem f157_18 : am_tab 157 18 = some (.iload 4, 2, 0, 0, 0, .null) := by decide +kernel
theorem f157_20 : am_tab 157 20 = some (.iadd, 1, 0, 0, 0, .null) := by decide +kernel
theorem f157_21 : am_tab 157 21 = some (.iaload, 1, 0, 0, 0, .null) := by decide +kernel
theorem f157_22 : am_tab 157 22 = some (.iconst 1, 1, 0, 0, 0, .null) := by decide +kernel
theorem f157_23 : am_tab 157 23 = some (.if_icmp .ne 7, 3, 30, 0, 0, .null) := by decide +kernel
theorem f157_26 : am_tab 157 26 = some (.iconst 0, 1, 0, 0, 0, .null) := by decide +kernel
theorem f157_27 : am_tab 157 27 = some (.goto 12, 3, 39, 0, 0, .null) := by decide +kernel
theorem f157_30 : am_tab 157 30 = some (.aload_n 0, 1, 0, 0, 0, .null) := by decide +kernel
theorem f157_31 : am_tab 157 31 = some (.getfield 7, 3, 10, 0, 5028, .null) := by decide +kernel
theorem f157_34 : am_tab 157 34 = some (.iconst 0, 1, 0, 0, 0, .null) := by decide +kernel
theorem f157_35 : am_tab 157 35 = some (.iload 4, 2, 0, 0, 0, .null) := by decide +kernel
theorem f157_37 : am_tab 157 37 = some (.iadd, 1, 0, 0, 0, .null) := by decide +kernel
theorem f157_38 : am_tab 157 38 = some (.iaload, 1, 0, 0, 0, .null) := by decide +kernel
theorem f157_39 : am_tab 157 39 = some (.iadd, 1, 0, 0, 0, .null) := by decide +kernel
theorem f157_40 : am_tab 157 40 = some (.istore_n 3, 1, 0, 0, 0, .null) := by decide +kernel
theorem f157_41 : am_tab 157 41 = some (.iinc 4 1, 3, 0, 0, 0, .null) := by decide +kernel
theorem f157_44 : am_tab 157 44 = some (.goto (-39), 3, 5, 0, 0, .null) := by decide +kernel
theorem f157_47 : am_tab 157 47 = some (.iload_n 3, 1, 0, 0, 0, .null) := by decide +kernel
theorem f157_48 : am_tab 157 48 = some (.ireturn, 1, 0, 0, 0, .null) := by decide +kernel
theorem f158_0 : am_tab 158 0 = some (.iload_n 1, 1, 0, 0, 0, .null) := by decide +kernel
theorem f158_1 : am_tab 158 1 = some (.invokestatic 73, 3, 147, 1, 5151, .int 2) := by decide +kernel
theorem f158_4 : am_tab 158 4 = some (.ifCond .eq 13, 3, 17, 0, 0, .null) := by decide +kernel
theorem f158_7 : am_tab 158 7 = some (.iload_n 2, 1, 0, 0, 0, .null) := by decide +kernel
theorem f158_8 : am_tab 158 8 = some (.iconst 1, 1, 0, 0, 0, .null) := by decide +kernel
theorem f158_9 : am_tab 158 9 = some (.bipush 99, 2, 0, 0, 0, .null) := by decide +kernel
theorem f158_11 : am_tab 158 11 = some (.invokestatic 54, 3, 145, 3, 5097, .int 2) := by decide +kernel
theorem f158_14 : am_tab 158 14 = some (.ifCond .ne 5, 3, 19, 0, 0, .null) := by decide +kernel
theorem f158_17 : am_tab 158 17 = some (.iconst 0, 1, 0, 0, 0, .null) := by decide +kernel
theorem f158_18 : am_tab 158 18 = some (.ireturn, 1, 0, 0, 0, .null) := by decide +kernel
theorem f158_19 : am_tab 158 19 = some (.aload_n 0, 1, 0, 0, 0, .null) := by decide +kernel
theorem f158_20 : am_tab 158 20 = some (.getfield 7, 3, 10, 0, 5028, .null) := by decide +kernel
theorem f158_23 : am_tab 158 23 = some (.iconst 0, 1, 0, 0, 0, .null) := by decide +kernel
theorem f158_24 : am_tab 158 24 = some (.iload_n 1, 1, 0, 0, 0, .null) := by decide +kernel
theorem f158_25 : am_tab 158 25 = some (.iadd, 1, 0, 0, 0, .null) := by decide +kernel
theorem f158_26 : am_tab 158 26 = some (.iload_n 2, 1, 0, 0, 0, .null) := by decide +kernel
theorem f158_27 : am_tab 158 27 = some (.iastore, 1, 0, 0, 0, .null) := by decide +kernel
theorem f158_28 : am_tab 158 28 = some (.iconst 1, 1, 0, 0, 0, .null) := by decide +kernel
theorem f158_29 : am_tab 158 29 = some (.ireturn, 1, 0, 0, 0, .null) := by decide +kernel
theorem f159_0 : am_tab 159 0 = some (.iload_n 1, 1, 0, 0, 0, .null) := by decide +kernel
theorem f159_1 : am_tab 159 1 = some (.invokestatic 73, 3, 147, 1, 5151, .int 2) := by decide +kernel
theorem f159_4 : am_tab 159 4 = some (.ifCond .ne 5, 3, 9, 0, 0, .null) := by decide +kernel
theorem f159_7 : am_tab 159 7 = some (.iconst 0, 1, 0, 0, 0, .null) := by decide +kernel
theorem f159_8 : am_tab 159 8 = some (.ireturn, 1, 0, 0, 0, .null) := by decide +kernel
theorem f159_9 : am_tab 159 9 = some (.aload_n 0, 1, 0, 0, 0, .null) := by decide +kernel
theorem f159_10 : am_tab 159 10 = some (.getfield 7, 3, 10, 0, 5028, .null) := by decide +kernel
theorem f159_13 : am_tab 159 13 = some (.bipush 48, 2, 0, 0, 0, .null) := by decide +kernel
theorem f159_15 : am_tab 159 15 = some (.iload_n 1, 1, 0, 0, 0, .null) := by decide +kernel
theorem f159_16 : am_tab 159 16 = some (.iadd, 1, 0, 0, 0, .null) := by decide +kernel
theorem f159_17 : am_tab 159 17 = some (.iload_n 2, 1, 0, 0, 0, .null) := by decide +kernel
theorem f159_18 : am_tab 159 18 = some (.ifCond .eq 7, 3, 25, 0, 0, .null) := by decide +kernel
theorem f159_21 : am_tab 159 21 = some (.iconst 1, 1, 0, 0, 0, .null) := by decide +kernel
theorem f159_22 : am_tab 159 22 = some (.goto 4, 3, 26, 0, 0, .null) := by decide +kernel
theorem f159_25 : am_tab 159 25 = some (.iconst 0, 1, 0, 0, 0, .null) := by decide +kernel
theorem f159_26 : am_tab 159 26 = some (.iastore, 1, 0, 0, 0, .null) := by decide +kernel
theorem f159_27 : am_tab 159 27 = some (.iconst 1, 1, 0, 0, 0, .null) := by decide +kernel
theorem f159_28 : am_tab 159 28 = some (.ireturn, 1, 0, 0, 0, .null) := by decide +kernel
theorem f160_0 : am_tab 160 0 = some (.aload_n 0, 1, 0, 0, 0, .null) := by decide +kernel
theorem f160_1 : am_tab 160 1 = some (.getfield 7, 3, 10, 0, 5028, .null) := by decide +kernel
theorem f160_4 : am_tab 160 4 = some (.sipush 192, 3, 0, 0, 0, .null) := by decide +kernel
theorem f160_7 : am_tab 160 7 = some (.iconst 0, 1, 0, 0, 0, .null) := by decide +kernel
theorem f160_8 : am_tab 160 8 = some (.iastore, 1, 0, 0, 0, .null) := by decide +kernel
theorem f160_9 : am_tab 160 9 = some (.iconst 0, 1, 0, 0, 0, .null) := by decide +kernel
theorem f160_10 : am_tab 160 10 = some (.istore_n 1, 1, 0, 0, 0, .null) := by decide +kernel
theorem f160_11 : am_tab 160 11 = some (.iload_n 1, 1, 0, 0, 0, .null) := by decide +kernel
theorem f160_12 : am_tab 160 12 = some (.bipush 11, 2, 0, 0, 0, .null) := by decide +kernel
theorem f160_14 : am_tab 160 14 = some (.if_icmp .gt 31, 3, 45, 0, 0, .null) := by decide +kernel
theorem f160_17 : am_tab 160 17 = some (.aload_n 0, 1, 0, 0, 0, .null) := by decide +kernel
theorem f160_18 : am_tab 160 18 = some (.getfield 7, 3, 10, 0, 5028, .null) := by decide +kernel
theorem f160_21 : am_tab 160 21 = some (.sipush 193, 3, 0, 0, 0, .null) := by decide +kernel
theorem f160_24 : am_tab 160 24 = some (.iload_n 1, 1, 0, 0, 0, .null) := by decide +kernel
theorem f160_25 : am_tab 160 25 = some (.iadd, 1, 0, 0, 0, .null) := by decide +kernel
theorem f160_26 : am_tab 160 26 = some (.iconst 0, 1, 0, 0, 0, .null) := by decide +kernel
theorem f160_27 : am_tab 160 27 = some (.iastore, 1, 0, 0, 0, .null) := by decide +kernel
theorem f160_28 : am_tab 160 28 = some (.aload_n 0, 1, 0, 0, 0, .null) := by decide +kernel
theorem f160_29 : am_tab 160 29 = some (.getfield 7, 3, 10, 0, 5028, .null) := by decide +kernel
theorem f160_32 : am_tab 160 32 = some (.sipush 205, 3, 0, 0, 0, .null) := by decide +kernel
theorem f160_35 : am_tab 160 35 = some (.iload_n 1, 1, 0, 0, 0, .null) := by decide +kernel
theorem f160_36 : am_tab 160 36 = some (.iadd, 1, 0, 0, 0, .null) := by decide +kernel
theorem f160_37 : am_tab 160 37 = some (.iconst 0, 1, 0, 0, 0, .null) := by decide +kernel
theorem f160_38 : am_tab 160 38 = some (.iastore, 1, 0, 0, 0, .null) := by decide +kernel
theorem f160_39 : am_tab 160 39 = some (.iinc 1 1, 3, 0, 0, 0, .null) := by decide +kernel
theorem f160_42 : am_tab 160 42 = some (.goto (-31), 3, 11, 0, 0, .null) := by decide +kernel
theorem f160_45 : am_tab 160 45 = some (.return_, 1, 0, 0, 0, .null) := by decide +kernel
theorem f161_0 : am_tab 161 0 = some (.iload_n 2, 1, 0, 0, 0, .null) := by decide +kernel
theorem f161_1 : am_tab 161 1 = some (.ifCond .eq 26, 3, 27, 0, 0, .null) := by decide +kernel
theorem f161_4 : am_tab 161 4 = some (.aload_n 0, 1, 0, 0, 0, .null) := by decide +kernel
theorem f161_5 : am_tab 161 5 = some (.getfield 7, 3, 10, 0, 5028, .null) := by decide +kernel
theorem f161_8 : am_tab 161 8 = some (.sipush 144, 3, 0, 0, 0, .null) := by decide +kernel
theorem f161_11 : am_tab 161 11 = some (.iload_n 1, 1, 0, 0, 0, .null) := by decide +kernel
theorem f161_12 : am_tab 161 12 = some (.iadd, 1, 0, 0, 0, .null) := by decide +kernel
theorem f161_13 : am_tab 161 13 = some (.iaload, 1, 0, 0, 0, .null) := by decide +kernel
theorem f161_14 : am_tab 161 14 = some (.iconst 1, 1, 0, 0, 0, .null) := by decide +kernel
theorem f161_15 : am_tab 161 15 = some (.if_icmp .eq 12, 3, 27, 0, 0, .null) := by decide +kernel
theorem f161_18 : am_tab 161 18 = some (.aload_n 0, 1, 0, 0, 0, .null) := by decide +kernel
theorem f161_19 : am_tab 161 19 = some (.invokevirtual 61, 3, 151, 1, 5166, .int 0) := by decide +kernel
theorem f161_22 : am_tab 161 22 = some (.bipush 11, 2, 0, 0, 0, .null) := by decide +kernel
theorem f161_24 : am_tab 161 24 = some (.if_icmp .gt 7, 3, 31, 0, 0, .null) := by decide +kernel
theorem f161_27 : am_tab 161 27 = some (.iconst 1, 1, 0, 0, 0, .null) := by decide +kernel
theorem f161_28 : am_tab 161 28 = some (.goto 4, 3, 32, 0, 0, .null) := by decide +kernel
theorem f161_31 : am_tab 161 31 = some (.iconst 0, 1, 0, 0, 0, .null) := by decide +kernel
theorem f161_32 : am_tab 161 32 = some (.ireturn, 1, 0, 0, 0, .null) := by decide +kernel
theorem f162_0 : am_tab 162 0 = some (.iload_n 1, 1, 0, 0, 0, .null) := by decide +kernel
theorem f162_1 : am_tab 162 1 = some (.iconst 1, 1, 0, 0, 0, .null) := by decide +kernel
theorem f162_2 : am_tab 162 2 = some (.bipush 47, 2, 0, 0, 0, .null) := by decide +kernel
theorem f162_4 : am_tab 162 4 = some (.invokestatic 54, 3, 145, 3, 5097, .int 2) := by decide +kernel
theorem f162_7 : am_tab 162 7 = some (.ifCond .eq 12, 3, 19, 0, 0, .null) := by decide +kernel
theorem f162_10 : am_tab 162 10 = some (.aload_n 0, 1, 0, 0, 0, .null) := by decide +kernel
theorem f162_11 : am_tab 162 11 = some (.iload_n 1, 1, 0, 0, 0, .null) := by decide +kernel
theorem f162_12 : am_tab 162 12 = some (.iload_n 2, 1, 0, 0, 0, .null) := by decide +kernel
theorem f162_13 : am_tab 162 13 = some (.invokevirtual 77, 3, 161, 3, 5162, .int 0) := by decide +kernel
theorem f162_16 : am_tab 162 16 = some (.ifCond .ne 5, 3, 21, 0, 0, .null) := by decide +kernel
theorem f162_19 : am_tab 162 19 = some (.iconst 0, 1, 0, 0, 0, .null) := by decide +kernel
theorem f162_20 : am_tab 162 20 = some (.ireturn, 1, 0, 0, 0, .null) := by decide +kernel
theorem f162_21 : am_tab 162 21 = some (.iload_n 2, 1, 0, 0, 0, .null) := by decide +kernel
theorem f162_22 : am_tab 162 22 = some (.ifCond .eq 7, 3, 29, 0, 0, .null) := by decide +kernel
theorem f162_25 : am_tab 162 25 = some (.iconst 1, 1, 0, 0, 0, .null) := by decide +kernel
theorem f162_26 : am_tab 162 26 = some (.goto 4, 3, 30, 0, 0, .null) := by decide +kernel
theorem f162_29 : am_tab 162 29 = some (.iconst 0, 1, 0, 0, 0, .null) := by decide +kernel
theorem f162_30 : am_tab 162 30 = some (.istore_n 3, 1, 0, 0, 0, .null) := by decide +kernel
theorem f162_31 : am_tab 162 31 = some (.aload_n 0, 1, 0, 0, 0, .null) := by decide +kernel
theorem f162_32 : am_tab 162 32 = some (.getfield 7, 3, 10, 0, 5028, .null) := by decide +kernel
theorem f162_35 : am_tab 162 35 = some (.sipush 144, 3, 0, 0, 0, .null) := by decide +kernel
theorem f162_38 : am_tab 162 38 = some (.iload_n 1, 1, 0, 0, 0, .null) := by decide +kernel
theorem f162_39 : am_tab 162 39 = some (.iadd, 1, 0, 0, 0, .null) := by decide +kernel
theorem f162_40 : am_tab 162 40 = some (.iaload, 1, 0, 0, 0, .null) := by decide +kernel
theorem f162_41 : am_tab 162 41 = some (.iload_n 3, 1, 0, 0, 0, .null) := by decide +kernel
theorem f162_42 : am_tab 162 42 = some (.if_icmp .eq 18, 3, 60, 0, 0, .null) := by decide +kernel
theorem f162_45 : am_tab 162 45 = some (.aload_n 0, 1, 0, 0, 0, .null) := by decide +kernel
theorem f162_46 : am_tab 162 46 = some (.getfield 7, 3, 10, 0, 5028, .null) := by decide +kernel
theorem f162_49 : am_tab 162 49 = some (.sipush 144, 3, 0, 0, 0, .null) := by decide +kernel
theorem f162_52 : am_tab 162 52 = some (.iload_n 1, 1, 0, 0, 0, .null) := by decide +kernel
theorem f162_53 : am_tab 162 53 = some (.iadd, 1, 0, 0, 0, .null) := by decide +kernel
theorem f162_54 : am_tab 162 54 = some (.iload_n 3, 1, 0, 0, 0, .null) := by decide +kernel
theorem f162_55 : am_tab 162 55 = some (.iastore, 1, 0, 0, 0, .null) := by decide +kernel
theorem f162_56 : am_tab 162 56 = some (.aload_n 0, 1, 0, 0, 0, .null) := by decide +kernel
theorem f162_57 : am_tab 162 57 = some (.invokevirtual 81, 3, 160, 1, 5170, .int 0) := by decide +kernel
theorem f162_60 : am_tab 162 60 = some (.iconst 1, 1, 0, 0, 0, .null) := by decide +kernel
theorem f162_61 : am_tab 162 61 = some (.ireturn, 1, 0, 0, 0, .null) := by decide +kernel
theorem f163_0 : am_tab 163 0 = some (.aload_n 0, 1, 0, 0, 0, .null) := by decide +kernel
theorem f163_1 : am_tab 163 1 = some (.iload_n 1, 1, 0, 0, 0, .null) := by decide +kernel
theorem f163_2 : am_tab 163 2 = some (.invokevirtual 84, 3, 152, 2, 5178, .int 0) := by decide +kernel
theorem f163_5 : am_tab 163 5 = some (.ifCond .eq 13, 3, 18, 0, 0, .null) := by decide +kernel
theorem f163_8 : am_tab 163 8 = some (.iload_n 2, 1, 0, 0, 0, .null) := by decide +kernel
theorem f163_9 : am_tab 163 9 = some (.bipush (-2), 2, 0, 0, 0, .null) := by decide +kernel
theorem f163_11 : am_tab 163 11 = some (.iconst 2, 1, 0, 0, 0, .null) := by decide +kernel
theorem f163_12 : am_tab 163 12 = some (.invokestatic 54, 3, 145, 3, 5097, .int 2) := by decide +kernel
theorem f163_15 : am_tab 163 15 = some (.ifCond .ne 5, 3, 20, 0, 0, .null) := by decide +kernel
theorem f163_18 : am_tab 163 18 = some (.iconst 0, 1, 0, 0, 0, .null) := by decide +kernel
theorem f163_19 : am_tab 163 19 = some (.ireturn, 1, 0, 0, 0, .null) := by decide +kernel
theorem f163_20 : am_tab 163 20 = some (.aload_n 0, 1, 0, 0, 0, .null) := by decide +kernel
theorem f163_21 : am_tab 163 21 = some (.getfield 7, 3, 10, 0, 5028, .null) := by decide +kernel
theorem f163_24 : am_tab 163 24 = some (.sipush 205, 3, 0, 0, 0, .null) := by decide +kernel
theorem f163_27 : am_tab 163 27 = some (.iload_n 1, 1, 0, 0, 0, .null) := by decide +kernel
theorem f163_28 : am_tab 163 28 = some (.iadd, 1, 0, 0, 0, .null) := by decide +kernel
theorem f163_29 : am_tab 163 29 = some (.iload_n 2, 1, 0, 0, 0, .null) := by decide +kernel
theorem f163_30 : am_tab 163 30 = some (.iastore, 1, 0, 0, 0, .null) := by decide +kernel
theorem f163_31 : am_tab 163 31 = some (.iconst 1, 1, 0, 0, 0, .null) := by decide +kernel
theorem f163_32 : am_tab 163 32 = some (.ireturn, 1, 0, 0, 0, .null) := by decide +kernel
theorem f164_0 : am_tab 164 0 = some (.aload_n 0, 1, 0, 0, 0, .null) := by decide +kernel
theorem f164_1 : am_tab 164 1 = some (.getfield 7, 3, 10, 0, 5028, .null) := by decide +kernel
theorem f164_4 : am_tab 164 4 = some (.sipush 192, 3, 0, 0, 0, .null) := by decide +kernel
theorem f164_7 : am_tab 164 7 = some (.iconst 1, 1, 0, 0, 0, .null) := by decide +kernel
theorem f164_8 : am_tab 164 8 = some (.iastore, 1, 0, 0, 0, .null) := by decide +kernel
theorem f164_9 : am_tab 164 9 = some (.iconst 0, 1, 0, 0, 0, .null) := by decide +kernel
theorem f164_10 : am_tab 164 10 = some (.istore_n 1, 1, 0, 0, 0, .null) := by decide +kernel
theorem f164_11 : am_tab 164 11 = some (.iload_n 1, 1, 0, 0, 0, .null) := by decide +kernel
theorem f164_12 : am_tab 164 12 = some (.aload_n 0, 1, 0, 0, 0, .null) := by decide +kernel
theorem f164_13 : am_tab 164 13 = some (.invokevirtual 61, 3, 151, 1, 5166, .int 0) := by decide +kernel
theorem f164_16 : am_tab 164 16 = some (.if_icmp .ge 46, 3, 62, 0, 0, .null) := by decide +kernel
theorem f164_19 : am_tab 164 19 = some (.aload_n 0, 1, 0, 0, 0, .null) := by decide +kernel
theorem f164_20 : am_tab 164 20 = some (.getfield 7, 3, 10, 0, 5028, .null) := by decide +kernel
theorem f164_23 : am_tab 164 23 = some (.sipush 193, 3, 0, 0, 0, .null) := by decide +kernel
theorem f164_26 : am_tab 164 26 = some (.iload_n 1, 1, 0, 0, 0, .null) := by decide +kernel
theorem f164_27 : am_tab 164 27 = some (.iadd, 1, 0, 0, 0, .null) := by decide +kernel
theorem f164_28 : am_tab 164 28 = some (.aload_n 0, 1, 0, 0, 0, .null) := by decide +kernel
theorem f164_29 : am_tab 164 29 = some (.aload_n 0, 1, 0, 0, 0, .null) := by decide +kernel
theorem f164_30 : am_tab 164 30 = some (.iload_n 1, 1, 0, 0, 0, .null) := by decide +kernel
theorem f164_31 : am_tab 164 31 = some (.invokevirtual 87, 3, 154, 2, 5202, .int 0) := by decide +kernel
theorem f164_34 : am_tab 164 34 = some (.aload_n 0, 1, 0, 0, 0, .null) := by decide +kernel
theorem f164_35 : am_tab 164 35 = some (.iload_n 1, 1, 0, 0, 0, .null) := by decide +kernel
theorem f164_36 : am_tab 164 36 = some (.iconst 1, 1, 0, 0, 0, .null) := by decide +kernel
theorem f164_37 : am_tab 164 37 = some (.iadd, 1, 0, 0, 0, .null) := by decide +kernel
theorem f164_38 : am_tab 164 38 = some (.invokevirtual 87, 3, 154, 2, 5202, .int 0) := by decide +kernel
theorem f164_41 : am_tab 164 41 = some (.invokevirtual 90, 3, 157, 3, 5210, .int 0) := by decide +kernel
theorem f164_44 : am_tab 164 44 = some (.aload_n 0, 1, 0, 0, 0, .null) := by decide +kernel
theorem f164_45 : am_tab 164 45 = some (.getfield 7, 3, 10, 0, 5028, .null) := by decide +kernel
theorem f164_48 : am_tab 164 48 = some (.sipush 205, 3, 0, 0, 0, .null) := by decide +kernel
theorem f164_51 : am_tab 164 51 = some (.iload_n 1, 1, 0, 0, 0, .null) := by decide +kernel
theorem f164_52 : am_tab 164 52 = some (.iadd, 1, 0, 0, 0, .null) := by decide +kernel
theorem f164_53 : am_tab 164 53 = some (.iaload, 1, 0, 0, 0, .null) := by decide +kernel
theorem f164_54 : am_tab 164 54 = some (.iadd, 1, 0, 0, 0, .null) := by decide +kernel
theorem f164_55 : am_tab 164 55 = some (.iastore, 1, 0, 0, 0, .null) := by decide +kernel
theorem f164_56 : am_tab 164 56 = some (.iinc 1 1, 3, 0, 0, 0, .null) := by decide +kernel
theorem f164_59 : am_tab 164 59 = some (.goto (-48), 3, 11, 0, 0, .null) := by decide +kernel
theorem f164_62 : am_tab 164 62 = some (.return_, 1, 0, 0, 0, .null) := by decide +kernel
theorem f165_0 : am_tab 165 0 = some (.iload_n 1, 1, 0, 0, 0, .null) := by decide +kernel
theorem f165_1 : am_tab 165 1 = some (.iconst 0, 1, 0, 0, 0, .null) := by decide +kernel
theorem f165_2 : am_tab 165 2 = some (.iconst 1, 1, 0, 0, 0, .null) := by decide +kernel
theorem f165_3 : am_tab 165 3 = some (.invokestatic 54, 3, 145, 3, 5097, .int 2) := by decide +kernel
theorem f165_6 : am_tab 165 6 = some (.ifCond .ne 5, 3, 11, 0, 0, .null) := by decide +kernel
theorem f165_9 : am_tab 165 9 = some (.iconst 0, 1, 0, 0, 0, .null) := by decide +kernel
theorem f165_10 : am_tab 165 10 = some (.ireturn, 1, 0, 0, 0, .null) := by decide +kernel
theorem f165_11 : am_tab 165 11 = some (.aload_n 0, 1, 0, 0, 0, .null) := by decide +kernel
theorem f165_12 : am_tab 165 12 = some (.getfield 7, 3, 10, 0, 5028, .null) := by decide +kernel
theorem f165_15 : am_tab 165 15 = some (.sipush 269, 3, 0, 0, 0, .null) := by decide +kernel
theorem f165_18 : am_tab 165 18 = some (.iload_n 1, 1, 0, 0, 0, .null) := by decide +kernel
theorem f165_19 : am_tab 165 19 = some (.iastore, 1, 0, 0, 0, .null) := by decide +kernel
theorem f165_20 : am_tab 165 20 = some (.iconst 1, 1, 0, 0, 0, .null) := by decide +kernel
theorem f165_21 : am_tab 165 21 = some (.ireturn, 1, 0, 0, 0, .null) := by decide +kernel
theorem f166_0 : am_tab 166 0 = some (.iload_n 1, 1, 0, 0, 0, .null) := by decide +kernel
theorem f166_1 : am_tab 166 1 = some (.iconst 0, 1, 0, 0, 0, .null) := by decide +kernel
theorem f166_2 : am_tab 166 2 = some (.iconst 2, 1, 0, 0, 0, .null) := by decide +kernel
theorem f166_3 : am_tab 166 3 = some (.invokestatic 54, 3, 145, 3, 5097, .int 2) := by decide +kernel
theorem f166_6 : am_tab 166 6 = some (.ifCond .eq 10, 3, 16, 0, 0, .null) := by decide +kernel
theorem f166_9 : am_tab 166 9 = some (.aload_n 0, 1, 0, 0, 0, .null) := by decide +kernel
theorem f166_10 : am_tab 166 10 = some (.invokevirtual 94, 3, 171, 1, 5218, .int 0) := by decide +kernel
theorem f166_13 : am_tab 166 13 = some (.ifCond .ne 5, 3, 18, 0, 0, .null) := by decide +kernel
theorem f166_16 : am_tab 166 16 = some (.iconst 0, 1, 0, 0, 0, .null) := by decide +kernel
theorem f166_17 : am_tab 166 17 = some (.ireturn, 1, 0, 0, 0, .null) := by decide +kernel
theorem f166_18 : am_tab 166 18 = some (.aload_n 0, 1, 0, 0, 0, .null) := by decide +kernel
theorem f166_19 : am_tab 166 19 = some (.iload_n 1, 1, 0, 0, 0, .null) := by decide +kernel
theorem f166_20 : am_tab 166 20 = some (.invokevirtual 98, 3, 178, 2, 5222, .int 0) := by decide +kernel
theorem f166_23 : am_tab 166 23 = some (.aload_n 0, 1, 0, 0, 0, .null) := by decide +kernel
theorem f166_24 : am_tab 166 24 = some (.getfield 7, 3, 10, 0, 5028, .null) := by decide +kernel
theorem f166_27 : am_tab 166 27 = some (.sipush 217, 3, 0, 0, 0, .null) := by decide +kernel
theorem f166_30 : am_tab 166 30 = some (.dup2, 1, 0, 0, 0, .null) := by decide +kernel
theorem f166_31 : am_tab 166 31 = some (.iaload, 1, 0, 0, 0, .null) := by decide +kernel
theorem f166_32 : am_tab 166 32 = some (.aload_n 0, 1, 0, 0, 0, .null) := by decide +kernel
theorem f166_33 : am_tab 166 33 = some (.getfield 102, 3, 10, 7, 5035, .null) := by decide +kernel
theorem f166_36 : am_tab 166 36 = some (.iadd, 1, 0, 0, 0, .null) := by decide +kernel
theorem f166_37 : am_tab 166 37 = some (.iastore, 1, 0, 0, 0, .null) := by decide +kernel
theorem f166_38 : am_tab 166 38 = some (.aload_n 0, 1, 0, 0, 0, .null) := by decide +kernel
theorem f166_39 : am_tab 166 39 = some (.getfield 7, 3, 10, 0, 5028, .null) := by decide +kernel
theorem f166_42 : am_tab 166 42 = some (.sipush 266, 3, 0, 0, 0, .null) := by decide +kernel
theorem f166_45 : am_tab 166 45 = some (.aload_n 0, 1, 0, 0, 0, .null) := by decide +kernel
theorem f166_46 : am_tab 166 46 = some (.invokevirtual 105, 3, 179, 1, 6019, .int 0) := by decide +kernel
theorem f166_49 : am_tab 166 49 = some (.iastore, 1, 0, 0, 0, .null) := by decide +kernel
theorem f166_50 : am_tab 166 50 = some (.aload_n 0, 1, 0, 0, 0, .null) := by decide +kernel
theorem f166_51 : am_tab 166 51 = some (.getfield 7, 3, 10, 0, 5028, .null) := by decide +kernel
theorem f166_54 : am_tab 166 54 = some (.sipush 267, 3, 0, 0, 0, .null) := by decide +kernel
theorem f166_57 : am_tab 166 57 = some (.aload_n 0, 1, 0, 0, 0, .null) := by decide +kernel
theorem f166_58 : am_tab 166 58 = some (.invokevirtual 108, 3, 180, 1, 6023, .int 0) := by decide +kernel
theorem f166_61 : am_tab 166 61 = some (.iastore, 1, 0, 0, 0, .null) := by decide +kernel
theorem f166_62 : am_tab 166 62 = some (.aload_n 0, 1, 0, 0, 0, .null) := by decide +kernel
theorem f166_63 : am_tab 166 63 = some (.getfield 7, 3, 10, 0, 5028, .null) := by decide +kernel
theorem f166_66 : am_tab 166 66 = some (.sipush 268, 3, 0, 0, 0, .null) := by decide +kernel
theorem f166_69 : am_tab 166 69 = some (.aload_n 0, 1, 0, 0, 0, .null) := by decide +kernel
theorem f166_70 : am_tab 166 70 = some (.invokevirtual 111, 3, 181, 1, 6027, .int 0) := by decide +kernel
theorem f166_73 : am_tab 166 73 = some (.iastore, 1, 0, 0, 0, .null) := by decide +kernel
theorem f166_74 : am_tab 166 74 = some (.iconst 0, 1, 0, 0, 0, .null) := by decide +kernel
theorem f166_75 : am_tab 166 75 = some (.istore_n 2, 1, 0, 0, 0, .null) := by decide +kernel
theorem f166_76 : am_tab 166 76 = some (.iload_n 2, 1, 0, 0, 0, .null) := by decide +kernel
theorem f166_77 : am_tab 166 77 = some (.bipush 48, 2, 0, 0, 0, .null) := by decide +kernel
theorem f166_79 : am_tab 166 79 = some (.if_icmp .ge 73, 3, 152, 0, 0, .null) := by decide +kernel
theorem f166_82 : am_tab 166 82 = some (.aload_n 0, 1, 0, 0, 0, .null) := by decide +kernel
theorem f166_83 : am_tab 166 83 = some (.getfield 7, 3, 10, 0, 5028, .null) := by decide +kernel
theorem f166_86 : am_tab 166 86 = some (.sipush 218, 3, 0, 0, 0, .null) := by decide +kernel
theorem f166_89 : am_tab 166 89 = some (.iload_n 2, 1, 0, 0, 0, .null) := by decide +kernel
theorem f166_90 : am_tab 166 90 = some (.iadd, 1, 0, 0, 0, .null) := by decide +kernel
theorem f166_91 : am_tab 166 91 = some (.aload_n 0, 1, 0, 0, 0, .null) := by decide +kernel
theorem f166_92 : am_tab 166 92 = some (.getfield 26, 3, 10, 8, 5036, .null) := by decide +kernel
theorem f166_95 : am_tab 166 95 = some (.iload_n 2, 1, 0, 0, 0, .null) := by decide +kernel
theorem f166_96 : am_tab 166 96 = some (.baload, 1, 0, 0, 0, .null) := by decide +kernel
theorem f166_97 : am_tab 166 97 = some (.ifCond .eq 7, 3, 104, 0, 0, .null) := by decide +kernel
theorem f166_100 : am_tab 166 100 = some (.iconst 1, 1, 0, 0, 0, .null) := by decide +kernel
theorem f166_101 : am_tab 166 101 = some (.goto 4, 3, 105, 0, 0, .null) := by decide +kernel
theorem f166_104 : am_tab 166 104 = some (.iconst 0, 1, 0, 0, 0, .null) := by decide +kernel
theorem f166_105 : am_tab 166 105 = some (.iastore, 1, 0, 0, 0, .null) := by decide +kernel
theorem f166_106 : am_tab 166 106 = some (.aload_n 0, 1, 0, 0, 0, .null) := by decide +kernel
theorem f166_107 : am_tab 166 107 = some (.getfield 7, 3, 10, 0, 5028, .null) := by decide +kernel
theorem f166_110 : am_tab 166 110 = some (.bipush 96, 2, 0, 0, 0, .null) := by decide +kernel
theorem f166_112 : am_tab 166 112 = some (.iload_n 2, 1, 0, 0, 0, .null) := by decide +kernel
theorem f166_113 : am_tab 166 113 = some (.iadd, 1, 0, 0, 0, .null) := by decide +kernel
theorem f166_114 : am_tab 166 114 = some (.dup2, 1, 0, 0, 0, .null) := by decide +kernel
theorem f166_115 : am_tab 166 115 = some (.iaload, 1, 0, 0, 0, .null) := by decide +kernel
theorem f166_116 : am_tab 166 116 = some (.aload_n 0, 1, 0, 0, 0, .null) := by decide +kernel
theorem f166_117 : am_tab 166 117 = some (.getfield 26, 3, 10, 8, 5036, .null) := by decide +kernel
theorem f166_120 : am_tab 166 120 = some (.iload_n 2, 1, 0, 0, 0, .null) := by decide +kernel
theorem f166_121 : am_tab 166 121 = some (.baload, 1, 0, 0, 0, .null) := by decide +kernel
theorem f166_122 : am_tab 166 122 = some (.ifCond .eq 21, 3, 143, 0, 0, .null) := by decide +kernel
theorem f166_125 : am_tab 166 125 = some (.aload_n 0, 1, 0, 0, 0, .null) := by decide +kernel
theorem f166_126 : am_tab 166 126 = some (.getfield 7, 3, 10, 0, 5028, .null) := by decide +kernel
theorem f166_129 : am_tab 166 129 = some (.bipush 96, 2, 0, 0, 0, .null) := by decide +kernel
theorem f166_131 : am_tab 166 131 = some (.iload_n 2, 1, 0, 0, 0, .null) := by decide +kernel
theorem f166_132 : am_tab 166 132 = some (.iadd, 1, 0, 0, 0, .null) := by decide +kernel
theorem f166_133 : am_tab 166 133 = some (.iaload, 1, 0, 0, 0, .null) := by decide +kernel
theorem f166_134 : am_tab 166 134 = some (.bipush 99, 2, 0, 0, 0, .null) := by decide +kernel
theorem f166_136 : am_tab 166 136 = some (.if_icmp .ge 7, 3, 143, 0, 0, .null) := by decide +kernel
theorem f166_139 : am_tab 166 139 = some (.iconst 1, 1, 0, 0, 0, .null) := by decide +kernel
theorem f166_140 : am_tab 166 140 = some (.goto 4, 3, 144, 0, 0, .null) := by decide +kernel
theorem f166_143 : am_tab 166 143 = some (.iconst 0, 1, 0, 0, 0, .null) := by decide +kernel
theorem f166_144 : am_tab 166 144 = some (.iadd, 1, 0, 0, 0, .null) := by decide +kernel
theorem f166_145 : am_tab 166 145 = some (.iastore, 1, 0, 0, 0, .null) := by decide +kernel
theorem f166_146 : am_tab 166 146 = some (.iinc 2 1, 3, 0, 0, 0, .null) := by decide +kernel
theorem f166_149 : am_tab 166 149 = some (.goto (-73), 3, 76, 0, 0, .null) := by decide +kernel
theorem f166_152 : am_tab 166 152 = some (.iconst 1, 1, 0, 0, 0, .null) := by decide +kernel
theorem f166_153 : am_tab 166 153 = some (.ireturn, 1, 0, 0, 0, .null) := by decide +kernel
theorem f167_0 : am_tab 167 0 = some (.iconst 1, 1, 0, 0, 0, .null) := by decide +kernel
theorem f167_1 : am_tab 167 1 = some (.istore_n 2, 1, 0, 0, 0, .null) := by decide +kernel
theorem f167_2 : am_tab 167 2 = some (.iconst 0, 1, 0, 0, 0, .null) := by decide +kernel
theorem f167_3 : am_tab 167 3 = some (.istore_n 3, 1, 0, 0, 0, .null) := by decide +kernel
theorem f167_4 : am_tab 167 4 = some (.iconst 0, 1, 0, 0, 0, .null) := by decide +kernel
theorem f167_5 : am_tab 167 5 = some (.istore 4, 2, 0, 0, 0, .null) := by decide +kernel
theorem f167_7 : am_tab 167 7 = some (.iload 4, 2, 0, 0, 0, .null) := by decide +kernel
theorem f167_9 : am_tab 167 9 = some (.bipush 48, 2, 0, 0, 0, .null) := by decide +kernel
theorem f167_11 : am_tab 167 11 = some (.if_icmp .ge 73, 3, 84, 0, 0, .null) := by decide +kernel
theorem f167_14 : am_tab 167 14 = some (.iload_n 3, 1, 0, 0, 0, .null) := by decide +kernel
theorem f167_15 : am_tab 167 15 = some (.aload_n 0, 1, 0, 0, 0, .null) := by decide +kernel
theorem f167_16 : am_tab 167 16 = some (.getfield 7, 3, 10, 0, 5028, .null) := by decide +kernel
theorem f167_19 : am_tab 167 19 = some (.iconst 0, 1, 0, 0, 0, .null) := by decide +kernel
theorem f167_20 : am_tab 167 20 = some (.iload 4, 2, 0, 0, 0, .null) := by decide +kernel
theorem f167_22 : am_tab 167 22 = some (.iadd, 1, 0, 0, 0, .null) := by decide +kernel
theorem f167_23 : am_tab 167 23 = some (.iaload, 1, 0, 0, 0, .null) := by decide +kernel
theorem f167_24 : am_tab 167 24 = some (.iadd, 1, 0, 0, 0, .null) := by decide +kernel
theorem f167_25 : am_tab 167 25 = some (.iload_n 1, 1, 0, 0, 0, .null) := by decide +kernel
theorem f167_26 : am_tab 167 26 = some (.if_icmp .gt 7, 3, 33, 0, 0, .null) := by decide +kernel
theorem f167_29 : am_tab 167 29 = some (.iconst 1, 1, 0, 0, 0, .null) := by decide +kernel
theorem f167_30 : am_tab 167 30 = some (.goto 4, 3, 34, 0, 0, .null) := by decide +kernel
theorem f167_33 : am_tab 167 33 = some (.iconst 0, 1, 0, 0, 0, .null) := by decide +kernel
theorem f167_34 : am_tab 167 34 = some (.istore 5, 2, 0, 0, 0, .null) := by decide +kernel
theorem f167_36 : am_tab 167 36 = some (.iload_n 2, 1, 0, 0, 0, .null) := by decide +kernel
theorem f167_37 : am_tab 167 37 = some (.iload 5, 2, 0, 0, 0, .null) := by decide +kernel
theorem f167_39 : am_tab 167 39 = some (.ifCond .eq 7, 3, 46, 0, 0, .null) := by decide +kernel
theorem f167_42 : am_tab 167 42 = some (.iconst 0, 1, 0, 0, 0, .null) := by decide +kernel
theorem f167_43 : am_tab 167 43 = some (.goto 4, 3, 47, 0, 0, .null) := by decide +kernel
theorem f167_46 : am_tab 167 46 = some (.iconst 1, 1, 0, 0, 0, .null) := by decide +kernel
theorem f167_47 : am_tab 167 47 = some (.iadd, 1, 0, 0, 0, .null) := by decide +kernel
theorem f167_48 : am_tab 167 48 = some (.istore_n 2, 1, 0, 0, 0, .null) := by decide +kernel
theorem f167_49 : am_tab 167 49 = some (.iload 5, 2, 0, 0, 0, .null) := by decide +kernel
theorem f167_51 : am_tab 167 51 = some (.ifCond .eq 17, 3, 68, 0, 0, .null) := by decide +kernel
theorem f167_54 : am_tab 167 54 = some (.iload_n 3, 1, 0, 0, 0, .null) := by decide +kernel
theorem f167_55 : am_tab 167 55 = some (.aload_n 0, 1, 0, 0, 0, .null) := by decide +kernel
theorem f167_56 : am_tab 167 56 = some (.getfield 7, 3, 10, 0, 5028, .null) := by decide +kernel
theorem f167_59 : am_tab 167 59 = some (.iconst 0, 1, 0, 0, 0, .null) := by decide +kernel
theorem f167_60 : am_tab 167 60 = some (.iload 4, 2, 0, 0, 0, .null) := by decide +kernel
theorem f167_62 : am_tab 167 62 = some (.iadd, 1, 0, 0, 0, .null) := by decide +kernel
theorem f167_63 : am_tab 167 63 = some (.iaload, 1, 0, 0, 0, .null) := by decide +kernel
theorem f167_64 : am_tab 167 64 = some (.iadd, 1, 0, 0, 0, .null) := by decide +kernel
theorem f167_65 : am_tab 167 65 = some (.goto 12, 3, 77, 0, 0, .null) := by decide +kernel
theorem f167_68 : am_tab 167 68 = some (.aload_n 0, 1, 0, 0, 0, .null) := by decide +kernel
theorem f167_69 : am_tab 167 69 = some (.getfield 7, 3, 10, 0, 5028, .null) := by decide +kernel
theorem f167_72 : am_tab 167 72 = some (.iconst 0, 1, 0, 0, 0, .null) := by decide +kernel
theorem f167_73 : am_tab 167 73 = some (.iload 4, 2, 0, 0, 0, .null) := by decide +kernel
theorem f167_75 : am_tab 167 75 = some (.iadd, 1, 0, 0, 0, .null) := by decide +kernel
theorem f167_76 : am_tab 167 76 = some (.iaload, 1, 0, 0, 0, .null) := by decide +kernel
theorem f167_77 : am_tab 167 77 = some (.istore_n 3, 1, 0, 0, 0, .null) := by decide +kernel
theorem f167_78 : am_tab 167 78 = some (.iinc 4 1, 3, 0, 0, 0, .null) := by decide +kernel
theorem f167_81 : am_tab 167 81 = some (.goto (-74), 3, 7, 0, 0, .null) := by decide +kernel
theorem f167_84 : am_tab 167 84 = some (.iload_n 2, 1, 0, 0, 0, .null) := by decide +kernel
theorem f167_85 : am_tab 167 85 = some (.ireturn, 1, 0, 0, 0, .null) := by decide +kernel
theorem f168_0 : am_tab 168 0 = some (.iconst 0, 1, 0, 0, 0, .null) := by decide +kernel
theorem f168_1 : am_tab 168 1 = some (.istore_n 1, 1, 0, 0, 0, .null) := by decide +kernel
theorem f168_2 : am_tab 168 2 = some (.iconst 0, 1, 0, 0, 0, .null) := by decide +kernel
theorem f168_3 : am_tab 168 3 = some (.istore_n 2, 1, 0, 0, 0, .null) := by decide +kernel
theorem f168_4 : am_tab 168 4 = some (.iload_n 2, 1, 0, 0, 0, .null) := by decide +kernel
theorem f168_5 : am_tab 168 5 = some (.bipush 48, 2, 0, 0, 0, .null) := by decide +kernel
theorem f168_7 : am_tab 168 7 = some (.if_icmp .ge 34, 3, 41, 0, 0, .null) := by decide +kernel
theorem f168_10 : am_tab 168 10 = some (.aload_n 0, 1, 0, 0, 0, .null) := by decide +kernel
theorem f168_11 : am_tab 168 11 = some (.getfield 7, 3, 10, 0, 5028, .null) := by decide +kernel
theorem f168_14 : am_tab 168 14 = some (.iconst 0, 1, 0, 0, 0, .null) := by decide +kernel
theorem f168_15 : am_tab 168 15 = some (.iload_n 2, 1, 0, 0, 0, .null) := by decide +kernel
theorem f168_16 : am_tab 168 16 = some (.iadd, 1, 0, 0, 0, .null) := by decide +kernel
theorem f168_17 : am_tab 168 17 = some (.iaload, 1, 0, 0, 0, .null) := by decide +kernel
theorem f168_18 : am_tab 168 18 = some (.iload_n 1, 1, 0, 0, 0, .null) := by decide +kernel
theorem f168_19 : am_tab 168 19 = some (.if_icmp .le 14, 3, 33, 0, 0, .null) := by decide +kernel
theorem f168_22 : am_tab 168 22 = some (.aload_n 0, 1, 0, 0, 0, .null) := by decide +kernel
theorem f168_23 : am_tab 168 23 = some (.getfield 7, 3, 10, 0, 5028, .null) := by decide +kernel
theorem f168_26 : am_tab 168 26 = some (.iconst 0, 1, 0, 0, 0, .null) := by decide +kernel
theorem f168_27 : am_tab 168 27 = some (.iload_n 2, 1, 0, 0, 0, .null) := by decide +kernel
theorem f168_28 : am_tab 168 28 = some (.iadd, 1, 0, 0, 0, .null) := by decide +kernel
theorem f168_29 : am_tab 168 29 = some (.iaload, 1, 0, 0, 0, .null) := by decide +kernel
theorem f168_30 : am_tab 168 30 = some (.goto 4, 3, 34, 0, 0, .null) := by decide +kernel
theorem f168_33 : am_tab 168 33 = some (.iload_n 1, 1, 0, 0, 0, .null) := by decide +kernel
theorem f168_34 : am_tab 168 34 = some (.istore_n 1, 1, 0, 0, 0, .null) := by decide +kernel
theorem f168_35 : am_tab 168 35 = some (.iinc 2 1, 3, 0, 0, 0, .null) := by decide +kernel
theorem f168_38 : am_tab 168 38 = some (.goto (-34), 3, 4, 0, 0, .null) := by decide +kernel
theorem f168_41 : am_tab 168 41 = some (.iload_n 1, 1, 0, 0, 0, .null) := by decide +kernel
theorem f168_42 : am_tab 168 42 = some (.ireturn, 1, 0, 0, 0, .null) := by decide +kernel
theorem f169_0 : am_tab 169 0 = some (.aload_n 0, 1, 0, 0, 0, .null) := by decide +kernel
theorem f169_1 : am_tab 169 1 = some (.invokevirtual 114, 3, 168, 1, 5190, .int 0) := by decide +kernel
theorem f169_4 : am_tab 169 4 = some (.istore_n 2, 1, 0, 0, 0, .null) := by decide +kernel
theorem f169_5 : am_tab 169 5 = some (.aload_n 0, 1, 0, 0, 0, .null) := by decide +kernel
theorem f169_6 : am_tab 169 6 = some (.iload_n 2, 1, 0, 0, 0, .null) := by decide +kernel
theorem f169_7 : am_tab 169 7 = some (.invokevirtual 117, 3, 167, 2, 5194, .int 0) := by decide +kernel
theorem f169_10 : am_tab 169 10 = some (.iload_n 1, 1, 0, 0, 0, .null) := by decide +kernel
theorem f169_11 : am_tab 169 11 = some (.iconst 1, 1, 0, 0, 0, .null) := by decide +kernel
theorem f169_12 : am_tab 169 12 = some (.iadd, 1, 0, 0, 0, .null) := by decide +kernel
theorem f169_13 : am_tab 169 13 = some (.if_icmp .le 9, 3, 22, 0, 0, .null) := by decide +kernel
theorem f169_16 : am_tab 169 16 = some (.iinc 2 1, 3, 0, 0, 0, .null) := by decide +kernel
theorem f169_19 : am_tab 169 19 = some (.goto (-14), 3, 5, 0, 0, .null) := by decide +kernel
theorem f169_22 : am_tab 169 22 = some (.iload_n 2, 1, 0, 0, 0, .null) := by decide +kernel
theorem f169_23 : am_tab 169 23 = some (.ireturn, 1, 0, 0, 0, .null) := by decide +kernel
theorem f170_0 : am_tab 170 0 = some (.iload_n 1, 1, 0, 0, 0, .null) := by decide +kernel
theorem f170_1 : am_tab 170 1 = some (.iconst 1, 1, 0, 0, 0, .null) := by decide +kernel
theorem f170_2 : am_tab 170 2 = some (.bipush 11, 2, 0, 0, 0, .null) := by decide +kernel
theorem f170_4 : am_tab 170 4 = some (.invokestatic 54, 3, 145, 3, 5097, .int 2) := by decide +kernel
theorem f170_7 : am_tab 170 7 = some (.ifCond .ne 5, 3, 12, 0, 0, .null) := by decide +kernel
theorem f170_10 : am_tab 170 10 = some (.iconst 0, 1, 0, 0, 0, .null) := by decide +kernel
theorem f170_11 : am_tab 170 11 = some (.ireturn, 1, 0, 0, 0, .null) := by decide +kernel
theorem f170_12 : am_tab 170 12 = some (.aload_n 0, 1, 0, 0, 0, .null) := by decide +kernel
theorem f170_13 : am_tab 170 13 = some (.iload_n 1, 1, 0, 0, 0, .null) := by decide +kernel
theorem f170_14 : am_tab 170 14 = some (.invokevirtual 120, 3, 169, 2, 5186, .int 0) := by decide +kernel
theorem f170_17 : am_tab 170 17 = some (.istore_n 2, 1, 0, 0, 0, .null) := by decide +kernel
theorem f170_18 : am_tab 170 18 = some (.iconst 0, 1, 0, 0, 0, .null) := by decide +kernel
theorem f170_19 : am_tab 170 19 = some (.istore_n 3, 1, 0, 0, 0, .null) := by decide +kernel
theorem f170_20 : am_tab 170 20 = some (.iconst 0, 1, 0, 0, 0, .null) := by decide +kernel
theorem f170_21 : am_tab 170 21 = some (.istore 4, 2, 0, 0, 0, .null) := by decide +kernel
theorem f170_23 : am_tab 170 23 = some (.iload 4, 2, 0, 0, 0, .null) := by decide +kernel
theorem f170_25 : am_tab 170 25 = some (.bipush 48, 2, 0, 0, 0, .null) := by decide +kernel
theorem f170_27 : am_tab 170 27 = some (.if_icmp .ge 81, 3, 108, 0, 0, .null) := by decide +kernel
theorem f170_30 : am_tab 170 30 = some (.iload_n 3, 1, 0, 0, 0, .null) := by decide +kernel
theorem f170_31 : am_tab 170 31 = some (.aload_n 0, 1, 0, 0, 0, .null) := by decide +kernel
theorem f170_32 : am_tab 170 32 = some (.getfield 7, 3, 10, 0, 5028, .null) := by decide +kernel
theorem f170_35 : am_tab 170 35 = some (.iconst 0, 1, 0, 0, 0, .null) := by decide +kernel
theorem f170_36 : am_tab 170 36 = some (.iload 4, 2, 0, 0, 0, .null) := by decide +kernel
theorem f170_38 : am_tab 170 38 = some (.iadd, 1, 0, 0, 0, .null) := by decide +kernel
theorem f170_39 : am_tab 170 39 = some (.iaload, 1, 0, 0, 0, .null) := by decide +kernel
theorem f170_40 : am_tab 170 40 = some (.iadd, 1, 0, 0, 0, .null) := by decide +kernel
theorem f170_41 : am_tab 170 41 = some (.iload_n 2, 1, 0, 0, 0, .null) := by decide +kernel
theorem f170_42 : am_tab 170 42 = some (.if_icmp .gt 7, 3, 49, 0, 0, .null) := by decide +kernel
theorem f170_45 : am_tab 170 45 = some (.iconst 1, 1, 0, 0, 0, .null) := by decide +kernel
theorem f170_46 : am_tab 170 46 = some (.goto 4, 3, 50, 0, 0, .null) := by decide +kernel
theorem f170_49 : am_tab 170 49 = some (.iconst 0, 1, 0, 0, 0, .null) := by decide +kernel
theorem f170_50 : am_tab 170 50 = some (.istore 5, 2, 0, 0, 0, .null) := by decide +kernel
theorem f170_52 : am_tab 170 52 = some (.aload_n 0, 1, 0, 0, 0, .null) := by decide +kernel
theorem f170_53 : am_tab 170 53 = some (.getfield 7, 3, 10, 0, 5028, .null) := by decide +kernel
theorem f170_56 : am_tab 170 56 = some (.sipush 144, 3, 0, 0, 0, .null) := by decide +kernel
theorem f170_59 : am_tab 170 59 = some (.iload 4, 2, 0, 0, 0, .null) := by decide +kernel
theorem f170_61 : am_tab 170 61 = some (.iadd, 1, 0, 0, 0, .null) := by decide +kernel
theorem f170_62 : am_tab 170 62 = some (.iload 5, 2, 0, 0, 0, .null) := by decide +kernel
theorem f170_64 : am_tab 170 64 = some (.ifCond .eq 7, 3, 71, 0, 0, .null) := by decide +kernel
theorem f170_67 : am_tab 170 67 = some (.iconst 0, 1, 0, 0, 0, .null) := by decide +kernel
theorem f170_68 : am_tab 170 68 = some (.goto 4, 3, 72, 0, 0, .null) := by decide +kernel
theorem f170_71 : am_tab 170 71 = some (.iconst 1, 1, 0, 0, 0, .null) := by decide +kernel
theorem f170_72 : am_tab 170 72 = some (.iastore, 1, 0, 0, 0, .null) := by decide +kernel
theorem f170_73 : am_tab 170 73 = some (.iload 5, 2, 0, 0, 0, .null) := by decide +kernel
theorem f170_75 : am_tab 170 75 = some (.ifCond .eq 17, 3, 92, 0, 0, .null) := by decide +kernel
theorem f170_78 : am_tab 170 78 = some (.iload_n 3, 1, 0, 0, 0, .null) := by decide +kernel
theorem f170_79 : am_tab 170 79 = some (.aload_n 0, 1, 0, 0, 0, .null) := by decide +kernel
theorem f170_80 : am_tab 170 80 = some (.getfield 7, 3, 10, 0, 5028, .null) := by decide +kernel
theorem f170_83 : am_tab 170 83 = some (.iconst 0, 1, 0, 0, 0, .null) := by decide +kernel
theorem f170_84 : am_tab 170 84 = some (.iload 4, 2, 0, 0, 0, .null) := by decide +kernel
theorem f170_86 : am_tab 170 86 = some (.iadd, 1, 0, 0, 0, .null) := by decide +kernel
theorem f170_87 : am_tab 170 87 = some (.iaload, 1, 0, 0, 0, .null) := by decide +kernel
theorem f170_88 : am_tab 170 88 = some (.iadd, 1, 0, 0, 0, .null) := by decide +kernel
theorem f170_89 : am_tab 170 89 = some (.goto 12, 3, 101, 0, 0, .null) := by decide +kernel
theorem f170_92 : am_tab 170 92 = some (.aload_n 0, 1, 0, 0, 0, .null) := by decide +kernel
theorem f170_93 : am_tab 170 93 = some (.getfield 7, 3, 10, 0, 5028, .null) := by decide +kernel
theorem f170_96 : am_tab 170 96 = some (.iconst 0, 1, 0, 0, 0, .null) := by decide +kernel
theorem f170_97 : am_tab 170 97 = some (.iload 4, 2, 0, 0, 0, .null) := by decide +kernel
theorem f170_99 : am_tab 170 99 = some (.iadd, 1, 0, 0, 0, .null) := by decide +kernel
theorem f170_100 : am_tab 170 100 = some (.iaload, 1, 0, 0, 0, .null) := by decide +kernel
theorem f170_101 : am_tab 170 101 = some (.istore_n 3, 1, 0, 0, 0, .null) := by decide +kernel
theorem f170_102 : am_tab 170 102 = some (.iinc 4 1, 3, 0, 0, 0, .null) := by decide +kernel
theorem f170_105 : am_tab 170 105 = some (.goto (-82), 3, 23, 0, 0, .null) := by decide +kernel
theorem f170_108 : am_tab 170 108 = some (.aload_n 0, 1, 0, 0, 0, .null) := by decide +kernel
theorem f170_109 : am_tab 170 109 = some (.invokevirtual 81, 3, 160, 1, 5170, .int 0) := by decide +kernel
theorem f170_112 : am_tab 170 112 = some (.iconst 1, 1, 0, 0, 0, .null) := by decide +kernel
theorem f170_113 : am_tab 170 113 = some (.ireturn, 1, 0, 0, 0, .null) := by decide +kernel
theorem f171_0 : am_tab 171 0 = some (.aload_n 0, 1, 0, 0, 0, .null) := by decide +kernel
theorem f171_1 : am_tab 171 1 = some (.getfield 7, 3, 10, 0, 5028, .null) := by decide +kernel
theorem f171_4 : am_tab 171 4 = some (.sipush 269, 3, 0, 0, 0, .null) := by decide +kernel
theorem f171_7 : am_tab 171 7 = some (.iaload, 1, 0, 0, 0, .null) := by decide +kernel
theorem f171_8 : am_tab 171 8 = some (.ifCond .eq 15, 3, 23, 0, 0, .null) := by decide +kernel
theorem f171_11 : am_tab 171 11 = some (.aload_n 0, 1, 0, 0, 0, .null) := by decide +kernel
theorem f171_12 : am_tab 171 12 = some (.getfield 7, 3, 10, 0, 5028, .null) := by decide +kernel
theorem f171_15 : am_tab 171 15 = some (.sipush 192, 3, 0, 0, 0, .null) := by decide +kernel
theorem f171_18 : am_tab 171 18 = some (.iaload, 1, 0, 0, 0, .null) := by decide +kernel
theorem f171_19 : am_tab 171 19 = some (.iconst 1, 1, 0, 0, 0, .null) := by decide +kernel
theorem f171_20 : am_tab 171 20 = some (.if_icmp .ne 7, 3, 27, 0, 0, .null) := by decide +kernel
theorem f171_23 : am_tab 171 23 = some (.iconst 1, 1, 0, 0, 0, .null) := by decide +kernel
theorem f171_24 : am_tab 171 24 = some (.goto 4, 3, 28, 0, 0, .null) := by decide +kernel
theorem f171_27 : am_tab 171 27 = some (.iconst 0, 1, 0, 0, 0, .null) := by decide +kernel
theorem f171_28 : am_tab 171 28 = some (.ireturn, 1, 0, 0, 0, .null) := by decide +kernel
theorem f172_0 : am_tab 172 0 = some (.iload_n 2, 1, 0, 0, 0, .null) := by decide +kernel
theorem f172_1 : am_tab 172 1 = some (.ifCond .ne 7, 3, 8, 0, 0, .null) := by decide +kernel
theorem f172_4 : am_tab 172 4 = some (.iconst 1, 1, 0, 0, 0, .null) := by decide +kernel
theorem f172_5 : am_tab 172 5 = some (.goto 30, 3, 35, 0, 0, .null) := by decide +kernel
theorem f172_8 : am_tab 172 8 = some (.iload_n 2, 1, 0, 0, 0, .null) := by decide +kernel
theorem f172_9 : am_tab 172 9 = some (.iconst 1, 1, 0, 0, 0, .null) := by decide +kernel
theorem f172_10 : am_tab 172 10 = some (.if_icmp .ne 14, 3, 24, 0, 0, .null) := by decide +kernel
theorem f172_13 : am_tab 172 13 = some (.aload_n 0, 1, 0, 0, 0, .null) := by decide +kernel
theorem f172_14 : am_tab 172 14 = some (.getfield 7, 3, 10, 0, 5028, .null) := by decide +kernel
theorem f172_17 : am_tab 172 17 = some (.iconst 0, 1, 0, 0, 0, .null) := by decide +kernel
theorem f172_18 : am_tab 172 18 = some (.iload_n 1, 1, 0, 0, 0, .null) := by decide +kernel
theorem f172_19 : am_tab 172 19 = some (.iadd, 1, 0, 0, 0, .null) := by decide +kernel
theorem f172_20 : am_tab 172 20 = some (.iaload, 1, 0, 0, 0, .null) := by decide +kernel
theorem f172_21 : am_tab 172 21 = some (.goto 14, 3, 35, 0, 0, .null) := by decide +kernel
theorem f172_24 : am_tab 172 24 = some (.aload_n 0, 1, 0, 0, 0, .null) := by decide +kernel
theorem f172_25 : am_tab 172 25 = some (.getfield 7, 3, 10, 0, 5028, .null) := by decide +kernel
theorem f172_28 : am_tab 172 28 = some (.bipush 96, 2, 0, 0, 0, .null) := by decide +kernel
theorem f172_30 : am_tab 172 30 = some (.iload_n 1, 1, 0, 0, 0, .null) := by decide +kernel
theorem f172_31 : am_tab 172 31 = some (.iadd, 1, 0, 0, 0, .null) := by decide +kernel
theorem f172_32 : am_tab 172 32 = some (.iaload, 1, 0, 0, 0, .null) := by decide +kernel
theorem f172_33 : am_tab 172 33 = some (.iconst 1, 1, 0, 0, 0, .null) := by decide +kernel
theorem f172_34 : am_tab 172 34 = some (.iadd, 1, 0, 0, 0, .null) := by decide +kernel
theorem f172_35 : am_tab 172 35 = some (.ireturn, 1, 0, 0, 0, .null) := by decide +kernel
theorem f173_0 : am_tab 173 0 = some (.iconst 0, 1, 0, 0, 0, .null) := by decide +kernel
theorem f173_1 : am_tab 173 1 = some (.istore 4, 2, 0, 0, 0, .null) := by decide +kernel
theorem f173_3 : am_tab 173 3 = some (.iload_n 1, 1, 0, 0, 0, .null) := by decide +kernel
theorem f173_4 : am_tab 173 4 = some (.istore 5, 2, 0, 0, 0, .null) := by decide +kernel
theorem f173_6 : am_tab 173 6 = some (.iload 5, 2, 0, 0, 0, .null) := by decide +kernel
theorem f173_8 : am_tab 173 8 = some (.iload_n 2, 1, 0, 0, 0, .null) := by decide +kernel
theorem f173_9 : am_tab 173 9 = some (.if_icmp .ge 21, 3, 30, 0, 0, .null) := by decide +kernel
theorem f173_12 : am_tab 173 12 = some (.iload 4, 2, 0, 0, 0, .null) := by decide +kernel
theorem f173_14 : am_tab 173 14 = some (.aload_n 0, 1, 0, 0, 0, .null) := by decide +kernel
theorem f173_15 : am_tab 173 15 = some (.iload 5, 2, 0, 0, 0, .null) := by decide +kernel
theorem f173_17 : am_tab 173 17 = some (.iload_n 3, 1, 0, 0, 0, .null) := by decide +kernel
theorem f173_18 : am_tab 173 18 = some (.invokevirtual 123, 3, 172, 3, 6014, .int 0) := by decide +kernel
theorem f173_21 : am_tab 173 21 = some (.iadd, 1, 0, 0, 0, .null) := by decide +kernel
theorem f173_22 : am_tab 173 22 = some (.istore 4, 2, 0, 0, 0, .null) := by decide +kernel
theorem f173_24 : am_tab 173 24 = some (.iinc 5 1, 3, 0, 0, 0, .null) := by decide +kernel
theorem f173_27 : am_tab 173 27 = some (.goto (-21), 3, 6, 0, 0, .null) := by decide +kernel
theorem f173_30 : am_tab 173 30 = some (.iload 4, 2, 0, 0, 0, .null) := by decide +kernel
theorem f173_32 : am_tab 173 32 = some (.ireturn, 1, 0, 0, 0, .null) := by decide +kernel
theorem f174_0 : am_tab 174 0 = some (.aload_n 0, 1, 0, 0, 0, .null) := by decide +kernel
theorem f174_1 : am_tab 174 1 = some (.iload_n 1, 1, 0, 0, 0, .null) := by decide +kernel
theorem f174_2 : am_tab 174 2 = some (.iload_n 2, 1, 0, 0, 0, .null) := by decide +kernel
theorem f174_3 : am_tab 174 3 = some (.iload_n 3, 1, 0, 0, 0, .null) := by decide +kernel
theorem f174_4 : am_tab 174 4 = some (.invokevirtual 126, 3, 173, 4, 6010, .int 0) := by decide +kernel
theorem f174_7 : am_tab 174 7 = some (.istore 4, 2, 0, 0, 0, .null) := by decide +kernel
theorem f174_9 : am_tab 174 9 = some (.iload_n 1, 1, 0, 0, 0, .null) := by decide +kernel
theorem f174_10 : am_tab 174 10 = some (.iconst 1, 1, 0, 0, 0, .null) := by decide +kernel
theorem f174_11 : am_tab 174 11 = some (.iadd, 1, 0, 0, 0, .null) := by decide +kernel
theorem f174_12 : am_tab 174 12 = some (.istore 5, 2, 0, 0, 0, .null) := by decide +kernel
theorem f174_14 : am_tab 174 14 = some (.ldc 129, 2, 0, 0, 6018, .int (1000000)) := by decide +kernel
theorem f174_16 : am_tab 174 16 = some (.istore 6, 2, 0, 0, 0, .null) := by decide +kernel
theorem f174_18 : am_tab 174 18 = some (.iconst 0, 1, 0, 0, 0, .null) := by decide +kernel
theorem f174_19 : am_tab 174 19 = some (.istore 7, 2, 0, 0, 0, .null) := by decide +kernel
theorem f174_21 : am_tab 174 21 = some (.iload_n 1, 1, 0, 0, 0, .null) := by decide +kernel
theorem f174_22 : am_tab 174 22 = some (.iconst 1, 1, 0, 0, 0, .null) := by decide +kernel
theorem f174_23 : am_tab 174 23 = some (.iadd, 1, 0, 0, 0, .null) := by decide +kernel
theorem f174_24 : am_tab 174 24 = some (.istore 8, 2, 0, 0, 0, .null) := by decide +kernel
theorem f174_26 : am_tab 174 26 = some (.iload 8, 2, 0, 0, 0, .null) := by decide +kernel
theorem f174_28 : am_tab 174 28 = some (.iload_n 2, 1, 0, 0, 0, .null) := by decide +kernel
theorem f174_29 : am_tab 174 29 = some (.if_icmp .ge 83, 3, 112, 0, 0, .null) := by decide +kernel
theorem f174_32 : am_tab 174 32 = some (.iload 7, 2, 0, 0, 0, .null) := by decide +kernel
theorem f174_34 : am_tab 174 34 = some (.aload_n 0, 1, 0, 0, 0, .null) := by decide +kernel
theorem f174_35 : am_tab 174 35 = some (.iload 8, 2, 0, 0, 0, .null) := by decide +kernel
theorem f174_37 : am_tab 174 37 = some (.iconst 1, 1, 0, 0, 0, .null) := by decide +kernel
theorem f174_38 : am_tab 174 38 = some (.isub, 1, 0, 0, 0, .null) := by decide +kernel
theorem f174_39 : am_tab 174 39 = some (.iload_n 3, 1, 0, 0, 0, .null) := by decide +kernel
theorem f174_40 : am_tab 174 40 = some (.invokevirtual 123, 3, 172, 3, 6014, .int 0) := by decide +kernel
theorem f174_43 : am_tab 174 43 = some (.iadd, 1, 0, 0, 0, .null) := by decide +kernel
theorem f174_44 : am_tab 174 44 = some (.istore 7, 2, 0, 0, 0, .null) := by decide +kernel
theorem f174_46 : am_tab 174 46 = some (.iconst 2, 1, 0, 0, 0, .null) := by decide +kernel
theorem f174_47 : am_tab 174 47 = some (.iload 7, 2, 0, 0, 0, .null) := by decide +kernel
theorem f174_49 : am_tab 174 49 = some (.imul, 1, 0, 0, 0, .null) := by decide +kernel
theorem f174_50 : am_tab 174 50 = some (.iload 4, 2, 0, 0, 0, .null) := by decide +kernel
theorem f174_52 : am_tab 174 52 = some (.if_icmp .ge 13, 3, 65, 0, 0, .null) := by decide +kernel
theorem f174_55 : am_tab 174 55 = some (.iload 4, 2, 0, 0, 0, .null) := by decide +kernel
theorem f174_57 : am_tab 174 57 = some (.iconst 2, 1, 0, 0, 0, .null) := by decide +kernel
theorem f174_58 : am_tab 174 58 = some (.iload 7, 2, 0, 0, 0, .null) := by decide +kernel
theorem f174_60 : am_tab 174 60 = some (.imul, 1, 0, 0, 0, .null) := by decide +kernel
theorem f174_61 : am_tab 174 61 = some (.isub, 1, 0, 0, 0, .null) := by decide +kernel
theorem f174_62 : am_tab 174 62 = some (.goto 10, 3, 72, 0, 0, .null) := by decide +kernel
theorem f174_65 : am_tab 174 65 = some (.iconst 2, 1, 0, 0, 0, .null) := by decide +kernel
theorem f174_66 : am_tab 174 66 = some (.iload 7, 2, 0, 0, 0, .null) := by decide +kernel
theorem f174_68 : am_tab 174 68 = some (.imul, 1, 0, 0, 0, .null) := by decide +kernel
theorem f174_69 : am_tab 174 69 = some (.iload 4, 2, 0, 0, 0, .null) := by decide +kernel
theorem f174_71 : am_tab 174 71 = some (.isub, 1, 0, 0, 0, .null) := by decide +kernel
theorem f174_72 : am_tab 174 72 = some (.istore 9, 2, 0, 0, 0, .null) := by decide +kernel
theorem f174_74 : am_tab 174 74 = some (.iload 9, 2, 0, 0, 0, .null) := by decide +kernel
theorem f174_76 : am_tab 174 76 = some (.iload 6, 2, 0, 0, 0, .null) := by decide +kernel
theorem f174_78 : am_tab 174 78 = some (.if_icmp .ge 8, 3, 86, 0, 0, .null) := by decide +kernel
theorem f174_81 : am_tab 174 81 = some (.iload 8, 2, 0, 0, 0, .null) := by decide +kernel
theorem f174_83 : am_tab 174 83 = some (.goto 5, 3, 88, 0, 0, .null) := by decide +kernel
theorem f174_86 : am_tab 174 86 = some (.iload 5, 2, 0, 0, 0, .null) := by decide +kernel
theorem f174_88 : am_tab 174 88 = some (.istore 5, 2, 0, 0, 0, .null) := by decide +kernel
theorem f174_90 : am_tab 174 90 = some (.iload 9, 2, 0, 0, 0, .null) := by decide +kernel
theorem f174_92 : am_tab 174 92 = some (.iload 6, 2, 0, 0, 0, .null) := by decide +kernel
theorem f174_94 : am_tab 174 94 = some (.if_icmp .ge 8, 3, 102, 0, 0, .null) := by decide +kernel
theorem f174_97 : am_tab 174 97 = some (.iload 9, 2, 0, 0, 0, .null) := by decide +kernel
theorem f174_99 : am_tab 174 99 = some (.goto 5, 3, 104, 0, 0, .null) := by decide +kernel
theorem f174_102 : am_tab 174 102 = some (.iload 6, 2, 0, 0, 0, .null) := by decide +kernel
theorem f174_104 : am_tab 174 104 = some (.istore 6, 2, 0, 0, 0, .null) := by decide +kernel
theorem f174_106 : am_tab 174 106 = some (.iinc 8 1, 3, 0, 0, 0, .null) := by decide +kernel
theorem f174_109 : am_tab 174 109 = some (.goto (-83), 3, 26, 0, 0, .null) := by decide +kernel
theorem f174_112 : am_tab 174 112 = some (.iload 5, 2, 0, 0, 0, .null) := by decide +kernel
theorem f174_114 : am_tab 174 114 = some (.ireturn, 1, 0, 0, 0, .null) := by decide +kernel
theorem f175_0 : am_tab 175 0 = some (.aload_n 0, 1, 0, 0, 0, .null) := by decide +kernel
theorem f175_1 : am_tab 175 1 = some (.getfield 29, 3, 10, 9, 5037, .null) := by decide +kernel
theorem f175_4 : am_tab 175 4 = some (.aload_n 0, 1, 0, 0, 0, .null) := by decide +kernel
theorem f175_5 : am_tab 175 5 = some (.getfield 130, 3, 10, 12, 5040, .null) := by decide +kernel
theorem f175_8 : am_tab 175 8 = some (.iload_n 1, 1, 0, 0, 0, .null) := by decide +kernel
theorem f175_9 : am_tab 175 9 = some (.iastore, 1, 0, 0, 0, .null) := by decide +kernel
theorem f175_10 : am_tab 175 10 = some (.aload_n 0, 1, 0, 0, 0, .null) := by decide +kernel
theorem f175_11 : am_tab 175 11 = some (.getfield 32, 3, 10, 10, 5038, .null) := by decide +kernel
theorem f175_14 : am_tab 175 14 = some (.aload_n 0, 1, 0, 0, 0, .null) := by decide +kernel
theorem f175_15 : am_tab 175 15 = some (.getfield 130, 3, 10, 12, 5040, .null) := by decide +kernel
theorem f175_18 : am_tab 175 18 = some (.iload_n 2, 1, 0, 0, 0, .null) := by decide +kernel
theorem f175_19 : am_tab 175 19 = some (.iastore, 1, 0, 0, 0, .null) := by decide +kernel
theorem f175_20 : am_tab 175 20 = some (.aload_n 0, 1, 0, 0, 0, .null) := by decide +kernel
theorem f175_21 : am_tab 175 21 = some (.getfield 35, 3, 10, 11, 5039, .null) := by decide +kernel
theorem f175_24 : am_tab 175 24 = some (.aload_n 0, 1, 0, 0, 0, .null) := by decide +kernel
theorem f175_25 : am_tab 175 25 = some (.getfield 130, 3, 10, 12, 5040, .null) := by decide +kernel
theorem f175_28 : am_tab 175 28 = some (.iload_n 3, 1, 0, 0, 0, .null) := by decide +kernel
theorem f175_29 : am_tab 175 29 = some (.iastore, 1, 0, 0, 0, .null) := by decide +kernel
theorem f175_30 : am_tab 175 30 = some (.aload_n 0, 1, 0, 0, 0, .null) := by decide +kernel
theorem f175_31 : am_tab 175 31 = some (.dup, 1, 0, 0, 0, .null) := by decide +kernel
theorem f175_32 : am_tab 175 32 = some (.getfield 130, 3, 10, 12, 5040, .null) := by decide +kernel
theorem f175_35 : am_tab 175 35 = some (.iconst 1, 1, 0, 0, 0, .null) := by decide +kernel
theorem f175_36 : am_tab 175 36 = some (.iadd, 1, 0, 0, 0, .null) := by decide +kernel
theorem f175_37 : am_tab 175 37 = some (.putfield 130, 3, 10, 12, 5040, .null) := by decide +kernel
theorem f175_40 : am_tab 175 40 = some (.return_, 1, 0, 0, 0, .null) := by decide +kernel
theorem f176_0 : am_tab 176 0 = some (.iload_n 3, 1, 0, 0, 0, .null) := by decide +kernel
theorem f176_1 : am_tab 176 1 = some (.aload_n 0, 1, 0, 0, 0, .null) := by decide +kernel
theorem f176_2 : am_tab 176 2 = some (.iload_n 1, 1, 0, 0, 0, .null) := by decide +kernel
theorem f176_3 : am_tab 176 3 = some (.iload_n 2, 1, 0, 0, 0, .null) := by decide +kernel
theorem f176_4 : am_tab 176 4 = some (.invokevirtual 133, 3, 156, 3, 5226, .int 0) := by decide +kernel
theorem f176_7 : am_tab 176 7 = some (.if_icmp .ne 27, 3, 34, 0, 0, .null) := by decide +kernel
theorem f176_10 : am_tab 176 10 = some (.iload_n 1, 1, 0, 0, 0, .null) := by decide +kernel
theorem f176_11 : am_tab 176 11 = some (.istore 5, 2, 0, 0, 0, .null) := by decide +kernel
theorem f176_13 : am_tab 176 13 = some (.iload 5, 2, 0, 0, 0, .null) := by decide +kernel
theorem f176_15 : am_tab 176 15 = some (.iload_n 2, 1, 0, 0, 0, .null) := by decide +kernel
theorem f176_16 : am_tab 176 16 = some (.if_icmp .ge 17, 3, 33, 0, 0, .null) := by decide +kernel
theorem f176_19 : am_tab 176 19 = some (.aload_n 0, 1, 0, 0, 0, .null) := by decide +kernel
theorem f176_20 : am_tab 176 20 = some (.getfield 26, 3, 10, 8, 5036, .null) := by decide +kernel
theorem f176_23 : am_tab 176 23 = some (.iload 5, 2, 0, 0, 0, .null) := by decide +kernel
theorem f176_25 : am_tab 176 25 = some (.iconst 1, 1, 0, 0, 0, .null) := by decide +kernel
theorem f176_26 : am_tab 176 26 = some (.bastore, 1, 0, 0, 0, .null) := by decide +kernel
theorem f176_27 : am_tab 176 27 = some (.iinc 5 1, 3, 0, 0, 0, .null) := by decide +kernel
theorem f176_30 : am_tab 176 30 = some (.goto (-17), 3, 13, 0, 0, .null) := by decide +kernel
theorem f176_33 : am_tab 176 33 = some (.return_, 1, 0, 0, 0, .null) := by decide +kernel
theorem f176_34 : am_tab 176 34 = some (.aload_n 0, 1, 0, 0, 0, .null) := by decide +kernel
theorem f176_35 : am_tab 176 35 = some (.dup, 1, 0, 0, 0, .null) := by decide +kernel
theorem f176_36 : am_tab 176 36 = some (.getfield 102, 3, 10, 7, 5035, .null) := by decide +kernel
theorem f176_39 : am_tab 176 39 = some (.iconst 1, 1, 0, 0, 0, .null) := by decide +kernel
theorem f176_40 : am_tab 176 40 = some (.iadd, 1, 0, 0, 0, .null) := by decide +kernel
theorem f176_41 : am_tab 176 41 = some (.putfield 102, 3, 10, 7, 5035, .null) := by decide +kernel
theorem f176_44 : am_tab 176 44 = some (.iload_n 2, 1, 0, 0, 0, .null) := by decide +kernel
theorem f176_45 : am_tab 176 45 = some (.iload_n 1, 1, 0, 0, 0, .null) := by decide +kernel
theorem f176_46 : am_tab 176 46 = some (.isub, 1, 0, 0, 0, .null) := by decide +kernel
theorem f176_47 : am_tab 176 47 = some (.iconst 1, 1, 0, 0, 0, .null) := by decide +kernel
theorem f176_48 : am_tab 176 48 = some (.if_icmp .ne 28, 3, 76, 0, 0, .null) := by decide +kernel
theorem f176_51 : am_tab 176 51 = some (.aload_n 0, 1, 0, 0, 0, .null) := by decide +kernel
theorem f176_52 : am_tab 176 52 = some (.getfield 26, 3, 10, 8, 5036, .null) := by decide +kernel
theorem f176_55 : am_tab 176 55 = some (.iload_n 1, 1, 0, 0, 0, .null) := by decide +kernel
theorem f176_56 : am_tab 176 56 = some (.aload_n 0, 1, 0, 0, 0, .null) := by decide +kernel
theorem f176_57 : am_tab 176 57 = some (.getfield 7, 3, 10, 0, 5028, .null) := by decide +kernel
theorem f176_60 : am_tab 176 60 = some (.bipush 48, 2, 0, 0, 0, .null) := by decide +kernel
theorem f176_62 : am_tab 176 62 = some (.iload_n 1, 1, 0, 0, 0, .null) := by decide +kernel
theorem f176_63 : am_tab 176 63 = some (.iadd, 1, 0, 0, 0, .null) := by decide +kernel
theorem f176_64 : am_tab 176 64 = some (.iaload, 1, 0, 0, 0, .null) := by decide +kernel
theorem f176_65 : am_tab 176 65 = some (.iconst 1, 1, 0, 0, 0, .null) := by decide +kernel
theorem f176_66 : am_tab 176 66 = some (.if_icmp .ne 7, 3, 73, 0, 0, .null) := by decide +kernel
theorem f176_69 : am_tab 176 69 = some (.iconst 1, 1, 0, 0, 0, .null) := by decide +kernel
theorem f176_70 : am_tab 176 70 = some (.goto 4, 3, 74, 0, 0, .null) := by decide +kernel
theorem f176_73 : am_tab 176 73 = some (.iconst 0, 1, 0, 0, 0, .null) := by decide +kernel
theorem f176_74 : am_tab 176 74 = some (.bastore, 1, 0, 0, 0, .null) := by decide +kernel
theorem f176_75 : am_tab 176 75 = some (.return_, 1, 0, 0, 0, .null) := by decide +kernel
theorem f176_76 : am_tab 176 76 = some (.aload_n 0, 1, 0, 0, 0, .null) := by decide +kernel
theorem f176_77 : am_tab 176 77 = some (.iload_n 1, 1, 0, 0, 0, .null) := by decide +kernel
theorem f176_78 : am_tab 176 78 = some (.iload_n 2, 1, 0, 0, 0, .null) := by decide +kernel
theorem f176_79 : am_tab 176 79 = some (.iload 4, 2, 0, 0, 0, .null) := by decide +kernel
theorem f176_81 : am_tab 176 81 = some (.invokevirtual 136, 3, 174, 4, 6006, .int 0) := by decide +kernel
theorem f176_84 : am_tab 176 84 = some (.istore 5, 2, 0, 0, 0, .null) := by decide +kernel
theorem f176_86 : am_tab 176 86 = some (.aload_n 0, 1, 0, 0, 0, .null) := by decide +kernel
theorem f176_87 : am_tab 176 87 = some (.iload_n 1, 1, 0, 0, 0, .null) := by decide +kernel
theorem f176_88 : am_tab 176 88 = some (.iload 5, 2, 0, 0, 0, .null) := by decide +kernel
theorem f176_90 : am_tab 176 90 = some (.invokevirtual 133, 3, 156, 3, 5226, .int 0) := by decide +kernel
theorem f176_93 : am_tab 176 93 = some (.aload_n 0, 1, 0, 0, 0, .null) := by decide +kernel
theorem f176_94 : am_tab 176 94 = some (.iload_n 1, 1, 0, 0, 0, .null) := by decide +kernel
theorem f176_95 : am_tab 176 95 = some (.iload 5, 2, 0, 0, 0, .null) := by decide +kernel
theorem f176_97 : am_tab 176 97 = some (.invokevirtual 90, 3, 157, 3, 5210, .int 0) := by decide +kernel
theorem f176_100 : am_tab 176 100 = some (.isub, 1, 0, 0, 0, .null) := by decide +kernel
theorem f176_101 : am_tab 176 101 = some (.istore 6, 2, 0, 0, 0, .null) := by decide +kernel
theorem f176_103 : am_tab 176 103 = some (.iload_n 3, 1, 0, 0, 0, .null) := by decide +kernel
theorem f176_104 : am_tab 176 104 = some (.iload 6, 2, 0, 0, 0, .null) := by decide +kernel
theorem f176_106 : am_tab 176 106 = some (.if_icmp .le 14, 3, 120, 0, 0, .null) := by decide +kernel
theorem f176_109 : am_tab 176 109 = some (.aload_n 0, 1, 0, 0, 0, .null) := by decide +kernel
theorem f176_110 : am_tab 176 110 = some (.iload 5, 2, 0, 0, 0, .null) := by decide +kernel
theorem f176_112 : am_tab 176 112 = some (.iload_n 2, 1, 0, 0, 0, .null) := by decide +kernel
theorem f176_113 : am_tab 176 113 = some (.iload_n 3, 1, 0, 0, 0, .null) := by decide +kernel
theorem f176_114 : am_tab 176 114 = some (.iload 6, 2, 0, 0, 0, .null) := by decide +kernel
theorem f176_116 : am_tab 176 116 = some (.isub, 1, 0, 0, 0, .null) := by decide +kernel
theorem f176_117 : am_tab 176 117 = some (.invokevirtual 139, 3, 175, 4, 5238, .int 0) := by decide +kernel
theorem f176_120 : am_tab 176 120 = some (.iload 6, 2, 0, 0, 0, .null) := by decide +kernel
theorem f176_122 : am_tab 176 122 = some (.ifCond .le 12, 3, 134, 0, 0, .null) := by decide +kernel
theorem f176_125 : am_tab 176 125 = some (.aload_n 0, 1, 0, 0, 0, .null) := by decide +kernel
theorem f176_126 : am_tab 176 126 = some (.iload_n 1, 1, 0, 0, 0, .null) := by decide +kernel
theorem f176_127 : am_tab 176 127 = some (.iload 5, 2, 0, 0, 0, .null) := by decide +kernel
theorem f176_129 : am_tab 176 129 = some (.iload 6, 2, 0, 0, 0, .null) := by decide +kernel
theorem f176_131 : am_tab 176 131 = some (.invokevirtual 139, 3, 175, 4, 5238, .int 0) := by decide +kernel
theorem f176_134 : am_tab 176 134 = some (.return_, 1, 0, 0, 0, .null) := by decide +kernel
theorem f177_0 : am_tab 177 0 = some (.aload_n 0, 1, 0, 0, 0, .null) := by decide +kernel
theorem f177_1 : am_tab 177 1 = some (.iconst 0, 1, 0, 0, 0, .null) := by decide +kernel
theorem f177_2 : am_tab 177 2 = some (.putfield 130, 3, 10, 12, 5040, .null) := by decide +kernel
theorem f177_5 : am_tab 177 5 = some (.iload_n 3, 1, 0, 0, 0, .null) := by decide +kernel
theorem f177_6 : am_tab 177 6 = some (.ifCond .le 10, 3, 16, 0, 0, .null) := by decide +kernel
theorem f177_9 : am_tab 177 9 = some (.aload_n 0, 1, 0, 0, 0, .null) := by decide +kernel
theorem f177_10 : am_tab 177 10 = some (.iload_n 1, 1, 0, 0, 0, .null) := by decide +kernel
theorem f177_11 : am_tab 177 11 = some (.iload_n 2, 1, 0, 0, 0, .null) := by decide +kernel
theorem f177_12 : am_tab 177 12 = some (.iload_n 3, 1, 0, 0, 0, .null) := by decide +kernel
theorem f177_13 : am_tab 177 13 = some (.invokevirtual 139, 3, 175, 4, 5238, .int 0) := by decide +kernel
theorem f177_16 : am_tab 177 16 = some (.aload_n 0, 1, 0, 0, 0, .null) := by decide +kernel
theorem f177_17 : am_tab 177 17 = some (.getfield 130, 3, 10, 12, 5040, .null) := by decide +kernel
theorem f177_20 : am_tab 177 20 = some (.ifCond .le 49, 3, 69, 0, 0, .null) := by decide +kernel
theorem f177_23 : am_tab 177 23 = some (.aload_n 0, 1, 0, 0, 0, .null) := by decide +kernel
theorem f177_24 : am_tab 177 24 = some (.dup, 1, 0, 0, 0, .null) := by decide +kernel
theorem f177_25 : am_tab 177 25 = some (.getfield 130, 3, 10, 12, 5040, .null) := by decide +kernel
theorem f177_28 : am_tab 177 28 = some (.iconst 1, 1, 0, 0, 0, .null) := by decide +kernel
theorem f177_29 : am_tab 177 29 = some (.isub, 1, 0, 0, 0, .null) := by decide +kernel
theorem f177_30 : am_tab 177 30 = some (.putfield 130, 3, 10, 12, 5040, .null) := by decide +kernel
theorem f177_33 : am_tab 177 33 = some (.aload_n 0, 1, 0, 0, 0, .null) := by decide +kernel
theorem f177_34 : am_tab 177 34 = some (.aload_n 0, 1, 0, 0, 0, .null) := by decide +kernel
theorem f177_35 : am_tab 177 35 = some (.getfield 29, 3, 10, 9, 5037, .null) := by decide +kernel
theorem f177_38 : am_tab 177 38 = some (.aload_n 0, 1, 0, 0, 0, .null) := by decide +kernel
theorem f177_39 : am_tab 177 39 = some (.getfield 130, 3, 10, 12, 5040, .null) := by decide +kernel
theorem f177_42 : am_tab 177 42 = some (.iaload, 1, 0, 0, 0, .null) := by decide +kernel
theorem f177_43 : am_tab 177 43 = some (.aload_n 0, 1, 0, 0, 0, .null) := by decide +kernel
theorem f177_44 : am_tab 177 44 = some (.getfield 32, 3, 10, 10, 5038, .null) := by decide +kernel
theorem f177_47 : am_tab 177 47 = some (.aload_n 0, 1, 0, 0, 0, .null) := by decide +kernel
theorem f177_48 : am_tab 177 48 = some (.getfield 130, 3, 10, 12, 5040, .null) := by decide +kernel
theorem f177_51 : am_tab 177 51 = some (.iaload, 1, 0, 0, 0, .null) := by decide +kernel
theorem f177_52 : am_tab 177 52 = some (.aload_n 0, 1, 0, 0, 0, .null) := by decide +kernel
theorem f177_53 : am_tab 177 53 = some (.getfield 35, 3, 10, 11, 5039, .null) := by decide +kernel
theorem f177_56 : am_tab 177 56 = some (.aload_n 0, 1, 0, 0, 0, .null) := by decide +kernel
theorem f177_57 : am_tab 177 57 = some (.getfield 130, 3, 10, 12, 5040, .null) := by decide +kernel
theorem f177_60 : am_tab 177 60 = some (.iaload, 1, 0, 0, 0, .null) := by decide +kernel
theorem f177_61 : am_tab 177 61 = some (.iload 4, 2, 0, 0, 0, .null) := by decide +kernel
theorem f177_63 : am_tab 177 63 = some (.invokevirtual 143, 3, 176, 5, 6002, .int 0) := by decide +kernel
theorem f177_66 : am_tab 177 66 = some (.goto (-50), 3, 16, 0, 0, .null) := by decide +kernel
theorem f177_69 : am_tab 177 69 = some (.return_, 1, 0, 0, 0, .null) := by decide +kernel
theorem f178_0 : am_tab 178 0 = some (.aload_n 0, 1, 0, 0, 0, .null) := by decide +kernel
theorem f178_1 : am_tab 178 1 = some (.iconst 0, 1, 0, 0, 0, .null) := by decide +kernel
theorem f178_2 : am_tab 178 2 = some (.putfield 102, 3, 10, 7, 5035, .null) := by decide +kernel
theorem f178_5 : am_tab 178 5 = some (.iconst 0, 1, 0, 0, 0, .null) := by decide +kernel
theorem f178_6 : am_tab 178 6 = some (.istore_n 2, 1, 0, 0, 0, .null) := by decide +kernel
theorem f178_7 : am_tab 178 7 = some (.iload_n 2, 1, 0, 0, 0, .null) := by decide +kernel
theorem f178_8 : am_tab 178 8 = some (.bipush 48, 2, 0, 0, 0, .null) := by decide +kernel
theorem f178_10 : am_tab 178 10 = some (.if_icmp .ge 16, 3, 26, 0, 0, .null) := by decide +kernel
theorem f178_13 : am_tab 178 13 = some (.aload_n 0, 1, 0, 0, 0, .null) := by decide +kernel
theorem f178_14 : am_tab 178 14 = some (.getfield 26, 3, 10, 8, 5036, .null) := by decide +kernel
theorem f178_17 : am_tab 178 17 = some (.iload_n 2, 1, 0, 0, 0, .null) := by decide +kernel
theorem f178_18 : am_tab 178 18 = some (.iconst 0, 1, 0, 0, 0, .null) := by decide +kernel
theorem f178_19 : am_tab 178 19 = some (.bastore, 1, 0, 0, 0, .null) := by decide +kernel
theorem f178_20 : am_tab 178 20 = some (.iinc 2 1, 3, 0, 0, 0, .null) := by decide +kernel
theorem f178_23 : am_tab 178 23 = some (.goto (-16), 3, 7, 0, 0, .null) := by decide +kernel
theorem f178_26 : am_tab 178 26 = some (.iconst 0, 1, 0, 0, 0, .null) := by decide +kernel
theorem f178_27 : am_tab 178 27 = some (.istore_n 2, 1, 0, 0, 0, .null) := by decide +kernel
theorem f178_28 : am_tab 178 28 = some (.iload_n 2, 1, 0, 0, 0, .null) := by decide +kernel
theorem f178_29 : am_tab 178 29 = some (.aload_n 0, 1, 0, 0, 0, .null) := by decide +kernel
theorem f178_30 : am_tab 178 30 = some (.invokevirtual 61, 3, 151, 1, 5166, .int 0) := by decide +kernel
theorem f178_33 : am_tab 178 33 = some (.if_icmp .ge 98, 3, 131, 0, 0, .null) := by decide +kernel
theorem f178_36 : am_tab 178 36 = some (.aload_n 0, 1, 0, 0, 0, .null) := by decide +kernel
theorem f178_37 : am_tab 178 37 = some (.iload_n 2, 1, 0, 0, 0, .null) := by decide +kernel
theorem f178_38 : am_tab 178 38 = some (.invokevirtual 87, 3, 154, 2, 5202, .int 0) := by decide +kernel
theorem f178_41 : am_tab 178 41 = some (.istore_n 3, 1, 0, 0, 0, .null) := by decide +kernel
theorem f178_42 : am_tab 178 42 = some (.aload_n 0, 1, 0, 0, 0, .null) := by decide +kernel
theorem f178_43 : am_tab 178 43 = some (.iload_n 2, 1, 0, 0, 0, .null) := by decide +kernel
theorem f178_44 : am_tab 178 44 = some (.iconst 1, 1, 0, 0, 0, .null) := by decide +kernel
theorem f178_45 : am_tab 178 45 = some (.iadd, 1, 0, 0, 0, .null) := by decide +kernel
theorem f178_46 : am_tab 178 46 = some (.invokevirtual 87, 3, 154, 2, 5202, .int 0) := by decide +kernel
theorem f178_49 : am_tab 178 49 = some (.istore 4, 2, 0, 0, 0, .null) := by decide +kernel
theorem f178_51 : am_tab 178 51 = some (.aload_n 0, 1, 0, 0, 0, .null) := by decide +kernel
theorem f178_52 : am_tab 178 52 = some (.dup, 1, 0, 0, 0, .null) := by decide +kernel
theorem f178_53 : am_tab 178 53 = some (.getfield 102, 3, 10, 7, 5035, .null) := by decide +kernel
theorem f178_56 : am_tab 178 56 = some (.aload_n 0, 1, 0, 0, 0, .null) := by decide +kernel
theorem f178_57 : am_tab 178 57 = some (.getfield 7, 3, 10, 0, 5028, .null) := by decide +kernel
theorem f178_60 : am_tab 178 60 = some (.sipush 269, 3, 0, 0, 0, .null) := by decide +kernel
theorem f178_63 : am_tab 178 63 = some (.iaload, 1, 0, 0, 0, .null) := by decide +kernel
theorem f178_64 : am_tab 178 64 = some (.iconst 1, 1, 0, 0, 0, .null) := by decide +kernel
theorem f178_65 : am_tab 178 65 = some (.if_icmp .ne 7, 3, 72, 0, 0, .null) := by decide +kernel
theorem f178_68 : am_tab 178 68 = some (.iconst 0, 1, 0, 0, 0, .null) := by decide +kernel
theorem f178_69 : am_tab 178 69 = some (.goto 4, 3, 73, 0, 0, .null) := by decide +kernel
theorem f178_72 : am_tab 178 72 = some (.iconst 1, 1, 0, 0, 0, .null) := by decide +kernel
theorem f178_73 : am_tab 178 73 = some (.iadd, 1, 0, 0, 0, .null) := by decide +kernel
theorem f178_74 : am_tab 178 74 = some (.putfield 102, 3, 10, 7, 5035, .null) := by decide +kernel
theorem f178_77 : am_tab 178 77 = some (.aload_n 0, 1, 0, 0, 0, .null) := by decide +kernel
theorem f178_78 : am_tab 178 78 = some (.iload_n 3, 1, 0, 0, 0, .null) := by decide +kernel
theorem f178_79 : am_tab 178 79 = some (.iload 4, 2, 0, 0, 0, .null) := by decide +kernel
theorem f178_81 : am_tab 178 81 = some (.aload_n 0, 1, 0, 0, 0, .null) := by decide +kernel
theorem f178_82 : am_tab 178 82 = some (.iload_n 3, 1, 0, 0, 0, .null) := by decide +kernel
theorem f178_83 : am_tab 178 83 = some (.iload 4, 2, 0, 0, 0, .null) := by decide +kernel
theorem f178_85 : am_tab 178 85 = some (.invokevirtual 133, 3, 156, 3, 5226, .int 0) := by decide +kernel
theorem f178_88 : am_tab 178 88 = some (.aload_n 0, 1, 0, 0, 0, .null) := by decide +kernel
theorem f178_89 : am_tab 178 89 = some (.getfield 7, 3, 10, 0, 5028, .null) := by decide +kernel
theorem f178_92 : am_tab 178 92 = some (.sipush 269, 3, 0, 0, 0, .null) := by decide +kernel
theorem f178_95 : am_tab 178 95 = some (.iaload, 1, 0, 0, 0, .null) := by decide +kernel
theorem f178_96 : am_tab 178 96 = some (.iconst 1, 1, 0, 0, 0, .null) := by decide +kernel
theorem f178_97 : am_tab 178 97 = some (.if_icmp .ne 16, 3, 113, 0, 0, .null) := by decide +kernel
theorem f178_100 : am_tab 178 100 = some (.aload_n 0, 1, 0, 0, 0, .null) := by decide +kernel
theorem f178_101 : am_tab 178 101 = some (.getfield 7, 3, 10, 0, 5028, .null) := by decide +kernel
theorem f178_104 : am_tab 178 104 = some (.sipush 193, 3, 0, 0, 0, .null) := by decide +kernel
theorem f178_107 : am_tab 178 107 = some (.iload_n 2, 1, 0, 0, 0, .null) := by decide +kernel
theorem f178_108 : am_tab 178 108 = some (.iadd, 1, 0, 0, 0, .null) := by decide +kernel
theorem f178_109 : am_tab 178 109 = some (.iaload, 1, 0, 0, 0, .null) := by decide +kernel
theorem f178_110 : am_tab 178 110 = some (.goto 10, 3, 120, 0, 0, .null) := by decide +kernel
theorem f178_113 : am_tab 178 113 = some (.aload_n 0, 1, 0, 0, 0, .null) := by decide +kernel
theorem f178_114 : am_tab 178 114 = some (.iload_n 3, 1, 0, 0, 0, .null) := by decide +kernel
theorem f178_115 : am_tab 178 115 = some (.iload 4, 2, 0, 0, 0, .null) := by decide +kernel
theorem f178_117 : am_tab 178 117 = some (.invokevirtual 90, 3, 157, 3, 5210, .int 0) := by decide +kernel
theorem f178_120 : am_tab 178 120 = some (.isub, 1, 0, 0, 0, .null) := by decide +kernel
theorem f178_121 : am_tab 178 121 = some (.iload_n 1, 1, 0, 0, 0, .null) := by decide +kernel
theorem f178_122 : am_tab 178 122 = some (.invokevirtual 147, 3, 177, 5, 5234, .int 0) := by decide +kernel
theorem f178_125 : am_tab 178 125 = some (.iinc 2 1, 3, 0, 0, 0, .null) := by decide +kernel
theorem f178_128 : am_tab 178 128 = some (.goto (-100), 3, 28, 0, 0, .null) := by decide +kernel
theorem f178_131 : am_tab 178 131 = some (.return_, 1, 0, 0, 0, .null) := by decide +kernel
theorem f179_0 : am_tab 179 0 = some (.iconst 0, 1, 0, 0, 0, .null) := by decide +kernel
theorem f179_1 : am_tab 179 1 = some (.istore_n 1, 1, 0, 0, 0, .null) := by decide +kernel
theorem f179_2 : am_tab 179 2 = some (.iconst 0, 1, 0, 0, 0, .null) := by decide +kernel
theorem f179_3 : am_tab 179 3 = some (.istore_n 2, 1, 0, 0, 0, .null) := by decide +kernel
theorem f179_4 : am_tab 179 4 = some (.iload_n 2, 1, 0, 0, 0, .null) := by decide +kernel
theorem f179_5 : am_tab 179 5 = some (.bipush 48, 2, 0, 0, 0, .null) := by decide +kernel
theorem f179_7 : am_tab 179 7 = some (.if_icmp .ge 26, 3, 33, 0, 0, .null) := by decide +kernel
theorem f179_10 : am_tab 179 10 = some (.iload_n 1, 1, 0, 0, 0, .null) := by decide +kernel
theorem f179_11 : am_tab 179 11 = some (.aload_n 0, 1, 0, 0, 0, .null) := by decide +kernel
theorem f179_12 : am_tab 179 12 = some (.getfield 26, 3, 10, 8, 5036, .null) := by decide +kernel
theorem f179_15 : am_tab 179 15 = some (.iload_n 2, 1, 0, 0, 0, .null) := by decide +kernel
theorem f179_16 : am_tab 179 16 = some (.baload, 1, 0, 0, 0, .null) := by decide +kernel
theorem f179_17 : am_tab 179 17 = some (.ifCond .eq 7, 3, 24, 0, 0, .null) := by decide +kernel
theorem f179_20 : am_tab 179 20 = some (.iconst 1, 1, 0, 0, 0, .null) := by decide +kernel
theorem f179_21 : am_tab 179 21 = some (.goto 4, 3, 25, 0, 0, .null) := by decide +kernel
theorem f179_24 : am_tab 179 24 = some (.iconst 0, 1, 0, 0, 0, .null) := by decide +kernel
theorem f179_25 : am_tab 179 25 = some (.iadd, 1, 0, 0, 0, .null) := by decide +kernel
theorem f179_26 : am_tab 179 26 = some (.istore_n 1, 1, 0, 0, 0, .null) := by decide +kernel
theorem f179_27 : am_tab 179 27 = some (.iinc 2 1, 3, 0, 0, 0, .null) := by decide +kernel
theorem f179_30 : am_tab 179 30 = some (.goto (-26), 3, 4, 0, 0, .null) := by decide +kernel
theorem f179_33 : am_tab 179 33 = some (.iload_n 1, 1, 0, 0, 0, .null) := by decide +kernel
theorem f179_34 : am_tab 179 34 = some (.ireturn, 1, 0, 0, 0, .null) := by decide +kernel
theorem f180_0 : am_tab 180 0 = some (.iconst 0, 1, 0, 0, 0, .null) := by decide +kernel
theorem f180_1 : am_tab 180 1 = some (.istore_n 1, 1, 0, 0, 0, .null) := by decide +kernel
theorem f180_2 : am_tab 180 2 = some (.iconst 0, 1, 0, 0, 0, .null) := by decide +kernel
theorem f180_3 : am_tab 180 3 = some (.istore_n 2, 1, 0, 0, 0, .null) := by decide +kernel
theorem f180_4 : am_tab 180 4 = some (.iload_n 2, 1, 0, 0, 0, .null) := by decide +kernel
theorem f180_5 : am_tab 180 5 = some (.bipush 48, 2, 0, 0, 0, .null) := by decide +kernel
theorem f180_7 : am_tab 180 7 = some (.if_icmp .ge 38, 3, 45, 0, 0, .null) := by decide +kernel
theorem f180_10 : am_tab 180 10 = some (.iload_n 1, 1, 0, 0, 0, .null) := by decide +kernel
theorem f180_11 : am_tab 180 11 = some (.aload_n 0, 1, 0, 0, 0, .null) := by decide +kernel
theorem f180_12 : am_tab 180 12 = some (.getfield 26, 3, 10, 8, 5036, .null) := by decide +kernel
theorem f180_15 : am_tab 180 15 = some (.iload_n 2, 1, 0, 0, 0, .null) := by decide +kernel
theorem f180_16 : am_tab 180 16 = some (.baload, 1, 0, 0, 0, .null) := by decide +kernel
theorem f180_17 : am_tab 180 17 = some (.ifCond .eq 19, 3, 36, 0, 0, .null) := by decide +kernel
theorem f180_20 : am_tab 180 20 = some (.aload_n 0, 1, 0, 0, 0, .null) := by decide +kernel
theorem f180_21 : am_tab 180 21 = some (.getfield 7, 3, 10, 0, 5028, .null) := by decide +kernel
theorem f180_24 : am_tab 180 24 = some (.bipush 48, 2, 0, 0, 0, .null) := by decide +kernel
theorem f180_26 : am_tab 180 26 = some (.iload_n 2, 1, 0, 0, 0, .null) := by decide +kernel
theorem f180_27 : am_tab 180 27 = some (.iadd, 1, 0, 0, 0, .null) := by decide +kernel
theorem f180_28 : am_tab 180 28 = some (.iaload, 1, 0, 0, 0, .null) := by decide +kernel
theorem f180_29 : am_tab 180 29 = some (.ifCond .ne 7, 3, 36, 0, 0, .null) := by decide +kernel
theorem f180_32 : am_tab 180 32 = some (.iconst 1, 1, 0, 0, 0, .null) := by decide +kernel
theorem f180_33 : am_tab 180 33 = some (.goto 4, 3, 37, 0, 0, .null) := by decide +kernel
theorem f180_36 : am_tab 180 36 = some (.iconst 0, 1, 0, 0, 0, .null) := by decide +kernel
theorem f180_37 : am_tab 180 37 = some (.iadd, 1, 0, 0, 0, .null) := by decide +kernel
theorem f180_38 : am_tab 180 38 = some (.istore_n 1, 1, 0, 0, 0, .null) := by decide +kernel
theorem f180_39 : am_tab 180 39 = some (.iinc 2 1, 3, 0, 0, 0, .null) := by decide +kernel
theorem f180_42 : am_tab 180 42 = some (.goto (-38), 3, 4, 0, 0, .null) := by decide +kernel
theorem f180_45 : am_tab 180 45 = some (.iload_n 1, 1, 0, 0, 0, .null) := by decide +kernel
theorem f180_46 : am_tab 180 46 = some (.ireturn, 1, 0, 0, 0, .null) := by decide +kernel
theorem f181_0 : am_tab 181 0 = some (.iconst 0, 1, 0, 0, 0, .null) := by decide +kernel
theorem f181_1 : am_tab 181 1 = some (.istore_n 1, 1, 0, 0, 0, .null) := by decide +kernel
theorem f181_2 : am_tab 181 2 = some (.iconst 0, 1, 0, 0, 0, .null) := by decide +kernel
theorem f181_3 : am_tab 181 3 = some (.istore_n 2, 1, 0, 0, 0, .null) := by decide +kernel
theorem f181_4 : am_tab 181 4 = some (.iload_n 2, 1, 0, 0, 0, .null) := by decide +kernel
theorem f181_5 : am_tab 181 5 = some (.bipush 48, 2, 0, 0, 0, .null) := by decide +kernel
theorem f181_7 : am_tab 181 7 = some (.if_icmp .ge 39, 3, 46, 0, 0, .null) := by decide +kernel
theorem f181_10 : am_tab 181 10 = some (.iload_n 1, 1, 0, 0, 0, .null) := by decide +kernel
theorem f181_11 : am_tab 181 11 = some (.aload_n 0, 1, 0, 0, 0, .null) := by decide +kernel
theorem f181_12 : am_tab 181 12 = some (.getfield 26, 3, 10, 8, 5036, .null) := by decide +kernel
theorem f181_15 : am_tab 181 15 = some (.iload_n 2, 1, 0, 0, 0, .null) := by decide +kernel
theorem f181_16 : am_tab 181 16 = some (.baload, 1, 0, 0, 0, .null) := by decide +kernel
theorem f181_17 : am_tab 181 17 = some (.ifCond .ne 20, 3, 37, 0, 0, .null) := by decide +kernel
theorem f181_20 : am_tab 181 20 = some (.aload_n 0, 1, 0, 0, 0, .null) := by decide +kernel
theorem f181_21 : am_tab 181 21 = some (.getfield 7, 3, 10, 0, 5028, .null) := by decide +kernel
theorem f181_24 : am_tab 181 24 = some (.bipush 48, 2, 0, 0, 0, .null) := by decide +kernel
theorem f181_26 : am_tab 181 26 = some (.iload_n 2, 1, 0, 0, 0, .null) := by decide +kernel
theorem f181_27 : am_tab 181 27 = some (.iadd, 1, 0, 0, 0, .null) := by decide +kernel
theorem f181_28 : am_tab 181 28 = some (.iaload, 1, 0, 0, 0, .null) := by decide +kernel
theorem f181_29 : am_tab 181 29 = some (.iconst 1, 1, 0, 0, 0, .null) := by decide +kernel
theorem f181_30 : am_tab 181 30 = some (.if_icmp .ne 7, 3, 37, 0, 0, .null) := by decide +kernel
theorem f181_33 : am_tab 181 33 = some (.iconst 1, 1, 0, 0, 0, .null) := by decide +kernel
theorem f181_34 : am_tab 181 34 = some (.goto 4, 3, 38, 0, 0, .null) := by decide +kernel
theorem f181_37 : am_tab 181 37 = some (.iconst 0, 1, 0, 0, 0, .null) := by decide +kernel
theorem f181_38 : am_tab 181 38 = some (.iadd, 1, 0, 0, 0, .null) := by decide +kernel
theorem f181_39 : am_tab 181 39 = some (.istore_n 1, 1, 0, 0, 0, .null) := by decide +kernel
theorem f181_40 : am_tab 181 40 = some (.iinc 2 1, 3, 0, 0, 0, .null) := by decide +kernel
theorem f181_43 : am_tab 181 43 = some (.goto (-39), 3, 4, 0, 0, .null) := by decide +kernel
theorem f181_46 : am_tab 181 46 = some (.iload_n 1, 1, 0, 0, 0, .null) := by decide +kernel
theorem f181_47 : am_tab 181 47 = some (.ireturn, 1, 0, 0, 0, .null) := by decide +kernel
theorem f182_0 : am_tab 182 0 = some (.aload_n 0, 1, 0, 0, 0, .null) := by decide +kernel
theorem f182_1 : am_tab 182 1 = some (.iconst 0, 1, 0, 0, 0, .null) := by decide +kernel
theorem f182_2 : am_tab 182 2 = some (.putfield 50, 3, 10, 6, 5034, .null) := by decide +kernel
theorem f182_5 : am_tab 182 5 = some (.iload_n 1, 1, 0, 0, 0, .null) := by decide +kernel
theorem f182_6 : am_tab 182 6 = some (.iconst 0, 1, 0, 0, 0, .null) := by decide +kernel
theorem f182_7 : am_tab 182 7 = some (.sipush 255, 3, 0, 0, 0, .null) := by decide +kernel
theorem f182_10 : am_tab 182 10 = some (.invokestatic 54, 3, 145, 3, 5097, .int 2) := by decide +kernel
theorem f182_13 : am_tab 182 13 = some (.ifCond .ne 9, 3, 22, 0, 0, .null) := by decide +kernel
theorem f182_16 : am_tab 182 16 = some (.aload_n 0, 1, 0, 0, 0, .null) := by decide +kernel
theorem f182_17 : am_tab 182 17 = some (.iconst 1, 1, 0, 0, 0, .null) := by decide +kernel
theorem f182_18 : am_tab 182 18 = some (.invokevirtual 150, 3, 144, 2, 5100, .int 0) := by decide +kernel
theorem f182_21 : am_tab 182 21 = some (.ireturn, 1, 0, 0, 0, .null) := by decide +kernel
theorem f182_22 : am_tab 182 22 = some (.aload_n 0, 1, 0, 0, 0, .null) := by decide +kernel
theorem f182_23 : am_tab 182 23 = some (.getfield 153, 3, 10, 14, 5042, .null) := by decide +kernel
theorem f182_26 : am_tab 182 26 = some (.bipush 120, 2, 0, 0, 0, .null) := by decide +kernel
theorem f182_28 : am_tab 182 28 = some (.if_icmp .ne 9, 3, 37, 0, 0, .null) := by decide +kernel
theorem f182_31 : am_tab 182 31 = some (.aload_n 0, 1, 0, 0, 0, .null) := by decide +kernel
theorem f182_32 : am_tab 182 32 = some (.iconst 2, 1, 0, 0, 0, .null) := by decide +kernel
theorem f182_33 : am_tab 182 33 = some (.invokevirtual 150, 3, 144, 2, 5100, .int 0) := by decide +kernel
theorem f182_36 : am_tab 182 36 = some (.ireturn, 1, 0, 0, 0, .null) := by decide +kernel
theorem f182_37 : am_tab 182 37 = some (.aload_n 0, 1, 0, 0, 0, .null) := by decide +kernel
theorem f182_38 : am_tab 182 38 = some (.getfield 38, 3, 10, 13, 5041, .null) := by decide +kernel
theorem f182_41 : am_tab 182 41 = some (.aload_n 0, 1, 0, 0, 0, .null) := by decide +kernel
theorem f182_42 : am_tab 182 42 = some (.getfield 153, 3, 10, 14, 5042, .null) := by decide +kernel
theorem f182_45 : am_tab 182 45 = some (.iload_n 1, 1, 0, 0, 0, .null) := by decide +kernel
theorem f182_46 : am_tab 182 46 = some (.iastore, 1, 0, 0, 0, .null) := by decide +kernel
theorem f182_47 : am_tab 182 47 = some (.aload_n 0, 1, 0, 0, 0, .null) := by decide +kernel
theorem f182_48 : am_tab 182 48 = some (.dup, 1, 0, 0, 0, .null) := by decide +kernel
theorem f182_49 : am_tab 182 49 = some (.getfield 153, 3, 10, 14, 5042, .null) := by decide +kernel
theorem f182_52 : am_tab 182 52 = some (.iconst 1, 1, 0, 0, 0, .null) := by decide +kernel
theorem f182_53 : am_tab 182 53 = some (.iadd, 1, 0, 0, 0, .null) := by decide +kernel
theorem f182_54 : am_tab 182 54 = some (.putfield 153, 3, 10, 14, 5042, .null) := by decide +kernel
theorem f182_57 : am_tab 182 57 = some (.aload_n 0, 1, 0, 0, 0, .null) := by decide +kernel
theorem f182_58 : am_tab 182 58 = some (.getfield 153, 3, 10, 14, 5042, .null) := by decide +kernel
theorem f182_61 : am_tab 182 61 = some (.ireturn, 1, 0, 0, 0, .null) := by decide +kernel
theorem f183_0 : am_tab 183 0 = some (.aload_n 0, 1, 0, 0, 0, .null) := by decide +kernel
theorem f183_1 : am_tab 183 1 = some (.iconst 0, 1, 0, 0, 0, .null) := by decide +kernel
theorem f183_2 : am_tab 183 2 = some (.putfield 50, 3, 10, 6, 5034, .null) := by decide +kernel
theorem f183_5 : am_tab 183 5 = some (.aload_n 0, 1, 0, 0, 0, .null) := by decide +kernel
theorem f183_6 : am_tab 183 6 = some (.getfield 153, 3, 10, 14, 5042, .null) := by decide +kernel
theorem f183_9 : am_tab 183 9 = some (.istore_n 1, 1, 0, 0, 0, .null) := by decide +kernel
theorem f183_10 : am_tab 183 10 = some (.aload_n 0, 1, 0, 0, 0, .null) := by decide +kernel
theorem f183_11 : am_tab 183 11 = some (.iconst 0, 1, 0, 0, 0, .null) := by decide +kernel
theorem f183_12 : am_tab 183 12 = some (.putfield 153, 3, 10, 14, 5042, .null) := by decide +kernel
theorem f183_15 : am_tab 183 15 = some (.iload_n 1, 1, 0, 0, 0, .null) := by decide +kernel
theorem f183_16 : am_tab 183 16 = some (.ireturn, 1, 0, 0, 0, .null) := by decide +kernel
theorem f184_0 : am_tab 184 0 = some (.iload_n 1, 1, 0, 0, 0, .null) := by decide +kernel
theorem f184_1 : am_tab 184 1 = some (.aload_n 0, 1, 0, 0, 0, .null) := by decide +kernel
theorem f184_2 : am_tab 184 2 = some (.getfield 153, 3, 10, 14, 5042, .null) := by decide +kernel
theorem f184_5 : am_tab 184 5 = some (.if_icmp .ge 31, 3, 36, 0, 0, .null) := by decide +kernel
theorem f184_8 : am_tab 184 8 = some (.aload_n 0, 1, 0, 0, 0, .null) := by decide +kernel
theorem f184_9 : am_tab 184 9 = some (.getfield 38, 3, 10, 13, 5041, .null) := by decide +kernel
theorem f184_12 : am_tab 184 12 = some (.iload_n 1, 1, 0, 0, 0, .null) := by decide +kernel
theorem f184_13 : am_tab 184 13 = some (.iaload, 1, 0, 0, 0, .null) := by decide +kernel
theorem f184_14 : am_tab 184 14 = some (.bipush 48, 2, 0, 0, 0, .null) := by decide +kernel
theorem f184_16 : am_tab 184 16 = some (.bipush 57, 2, 0, 0, 0, .null) := by decide +kernel
theorem f184_18 : am_tab 184 18 = some (.invokestatic 54, 3, 145, 3, 5097, .int 2) := by decide +kernel
theorem f184_21 : am_tab 184 21 = some (.ifCond .eq 15, 3, 36, 0, 0, .null) := by decide +kernel
theorem f184_24 : am_tab 184 24 = some (.aload_n 0, 1, 0, 0, 0, .null) := by decide +kernel
theorem f184_25 : am_tab 184 25 = some (.getfield 38, 3, 10, 13, 5041, .null) := by decide +kernel
theorem f184_28 : am_tab 184 28 = some (.iload_n 1, 1, 0, 0, 0, .null) := by decide +kernel
theorem f184_29 : am_tab 184 29 = some (.iaload, 1, 0, 0, 0, .null) := by decide +kernel
theorem f184_30 : am_tab 184 30 = some (.bipush 48, 2, 0, 0, 0, .null) := by decide +kernel
theorem f184_32 : am_tab 184 32 = some (.isub, 1, 0, 0, 0, .null) := by decide +kernel
theorem f184_33 : am_tab 184 33 = some (.goto 4, 3, 37, 0, 0, .null) := by decide +kernel
theorem f184_36 : am_tab 184 36 = some (.iconst (-1), 1, 0, 0, 0, .null) := by decide +kernel
theorem f184_37 : am_tab 184 37 = some (.ireturn, 1, 0, 0, 0, .null) := by decide +kernel
theorem f185_0 : am_tab 185 0 = some (.aload_n 0, 1, 0, 0, 0, .null) := by decide +kernel
theorem f185_1 : am_tab 185 1 = some (.aload_n 0, 1, 0, 0, 0, .null) := by decide +kernel
theorem f185_2 : am_tab 185 2 = some (.getfield 156, 3, 10, 15, 5043, .null) := by decide +kernel
theorem f185_5 : am_tab 185 5 = some (.invokevirtual 159, 3, 184, 2, 5131, .int 0) := by decide +kernel
theorem f185_8 : am_tab 185 8 = some (.istore_n 3, 1, 0, 0, 0, .null) := by decide +kernel
theorem f185_9 : am_tab 185 9 = some (.iload_n 3, 1, 0, 0, 0, .null) := by decide +kernel
theorem f185_10 : am_tab 185 10 = some (.iconst (-1), 1, 0, 0, 0, .null) := by decide +kernel
theorem f185_11 : am_tab 185 11 = some (.if_icmp .eq 22, 3, 33, 0, 0, .null) := by decide +kernel
theorem f185_14 : am_tab 185 14 = some (.bipush 10, 2, 0, 0, 0, .null) := by decide +kernel
theorem f185_16 : am_tab 185 16 = some (.iload_n 3, 1, 0, 0, 0, .null) := by decide +kernel
theorem f185_17 : am_tab 185 17 = some (.imul, 1, 0, 0, 0, .null) := by decide +kernel
theorem f185_18 : am_tab 185 18 = some (.iload_n 2, 1, 0, 0, 0, .null) := by decide +kernel
theorem f185_19 : am_tab 185 19 = some (.if_icmp .gt 14, 3, 33, 0, 0, .null) := by decide +kernel
theorem f185_22 : am_tab 185 22 = some (.bipush 10, 2, 0, 0, 0, .null) := by decide +kernel
theorem f185_24 : am_tab 185 24 = some (.iload_n 3, 1, 0, 0, 0, .null) := by decide +kernel
theorem f185_25 : am_tab 185 25 = some (.imul, 1, 0, 0, 0, .null) := by decide +kernel
theorem f185_26 : am_tab 185 26 = some (.bipush 9, 2, 0, 0, 0, .null) := by decide +kernel
theorem f185_28 : am_tab 185 28 = some (.iadd, 1, 0, 0, 0, .null) := by decide +kernel
theorem f185_29 : am_tab 185 29 = some (.iload_n 1, 1, 0, 0, 0, .null) := by decide +kernel
theorem f185_30 : am_tab 185 30 = some (.if_icmp .ge 5, 3, 35, 0, 0, .null) := by decide +kernel
theorem f185_33 : am_tab 185 33 = some (.iconst (-1), 1, 0, 0, 0, .null) := by decide +kernel
theorem f185_34 : am_tab 185 34 = some (.ireturn, 1, 0, 0, 0, .null) := by decide +kernel
theorem f185_35 : am_tab 185 35 = some (.aload_n 0, 1, 0, 0, 0, .null) := by decide +kernel
theorem f185_36 : am_tab 185 36 = some (.dup, 1, 0, 0, 0, .null) := by decide +kernel
theorem f185_37 : am_tab 185 37 = some (.getfield 156, 3, 10, 15, 5043, .null) := by decide +kernel
theorem f185_40 : am_tab 185 40 = some (.iconst 1, 1, 0, 0, 0, .null) := by decide +kernel
theorem f185_41 : am_tab 185 41 = some (.iadd, 1, 0, 0, 0, .null) := by decide +kernel
theorem f185_42 : am_tab 185 42 = some (.putfield 156, 3, 10, 15, 5043, .null) := by decide +kernel
theorem f185_45 : am_tab 185 45 = some (.aload_n 0, 1, 0, 0, 0, .null) := by decide +kernel
theorem f185_46 : am_tab 185 46 = some (.aload_n 0, 1, 0, 0, 0, .null) := by decide +kernel
theorem f185_47 : am_tab 185 47 = some (.getfield 156, 3, 10, 15, 5043, .null) := by decide +kernel
theorem f185_50 : am_tab 185 50 = some (.invokevirtual 159, 3, 184, 2, 5131, .int 0) := by decide +kernel
theorem f185_53 : am_tab 185 53 = some (.istore 4, 2, 0, 0, 0, .null) := by decide +kernel
theorem f185_55 : am_tab 185 55 = some (.iload 4, 2, 0, 0, 0, .null) := by decide +kernel
theorem f185_57 : am_tab 185 57 = some (.iconst (-1), 1, 0, 0, 0, .null) := by decide +kernel
theorem f185_58 : am_tab 185 58 = some (.if_icmp .eq 18, 3, 76, 0, 0, .null) := by decide +kernel
theorem f185_61 : am_tab 185 61 = some (.bipush 10, 2, 0, 0, 0, .null) := by decide +kernel
theorem f185_63 : am_tab 185 63 = some (.iload_n 3, 1, 0, 0, 0, .null) := by decide +kernel
theorem f185_64 : am_tab 185 64 = some (.imul, 1, 0, 0, 0, .null) := by decide +kernel
theorem f185_65 : am_tab 185 65 = some (.iload 4, 2, 0, 0, 0, .null) := by decide +kernel
theorem f185_67 : am_tab 185 67 = some (.iadd, 1, 0, 0, 0, .null) := by decide +kernel
theorem f185_68 : am_tab 185 68 = some (.iload_n 1, 1, 0, 0, 0, .null) := by decide +kernel
theorem f185_69 : am_tab 185 69 = some (.iload_n 2, 1, 0, 0, 0, .null) := by decide +kernel
theorem f185_70 : am_tab 185 70 = some (.invokestatic 54, 3, 145, 3, 5097, .int 2) := by decide +kernel
theorem f185_73 : am_tab 185 73 = some (.ifCond .ne 5, 3, 78, 0, 0, .null) := by decide +kernel
theorem f185_76 : am_tab 185 76 = some (.iconst (-1), 1, 0, 0, 0, .null) := by decide +kernel
theorem f185_77 : am_tab 185 77 = some (.ireturn, 1, 0, 0, 0, .null) := by decide +kernel
theorem f185_78 : am_tab 185 78 = some (.aload_n 0, 1, 0, 0, 0, .null) := by decide +kernel
theorem f185_79 : am_tab 185 79 = some (.dup, 1, 0, 0, 0, .null) := by decide +kernel
theorem f185_80 : am_tab 185 80 = some (.getfield 156, 3, 10, 15, 5043, .null) := by decide +kernel
theorem f185_83 : am_tab 185 83 = some (.iconst 1, 1, 0, 0, 0, .null) := by decide +kernel
theorem f185_84 : am_tab 185 84 = some (.iadd, 1, 0, 0, 0, .null) := by decide +kernel
theorem f185_85 : am_tab 185 85 = some (.putfield 156, 3, 10, 15, 5043, .null) := by decide +kernel
theorem f185_88 : am_tab 185 88 = some (.bipush 10, 2, 0, 0, 0, .null) := by decide +kernel
theorem f185_90 : am_tab 185 90 = some (.iload_n 3, 1, 0, 0, 0, .null) := by decide +kernel
theorem f185_91 : am_tab 185 91 = some (.imul, 1, 0, 0, 0, .null) := by decide +kernel
theorem f185_92 : am_tab 185 92 = some (.iload 4, 2, 0, 0, 0, .null) := by decide +kernel
theorem f185_94 : am_tab 185 94 = some (.iadd, 1, 0, 0, 0, .null) := by decide +kernel
theorem f185_95 : am_tab 185 95 = some (.ireturn, 1, 0, 0, 0, .null) := by decide +kernel
theorem f186_0 : am_tab 186 0 = some (.aload_n 0, 1, 0, 0, 0, .null) := by decide +kernel
theorem f186_1 : am_tab 186 1 = some (.aload_n 0, 1, 0, 0, 0, .null) := by decide +kernel
theorem f186_2 : am_tab 186 2 = some (.getfield 156, 3, 10, 15, 5043, .null) := by decide +kernel
theorem f186_5 : am_tab 186 5 = some (.invokevirtual 159, 3, 184, 2, 5131, .int 0) := by decide +kernel
theorem f186_8 : am_tab 186 8 = some (.istore_n 2, 1, 0, 0, 0, .null) := by decide +kernel
theorem f186_9 : am_tab 186 9 = some (.iload_n 2, 1, 0, 0, 0, .null) := by decide +kernel
theorem f186_10 : am_tab 186 10 = some (.iconst (-1), 1, 0, 0, 0, .null) := by decide +kernel
theorem f186_11 : am_tab 186 11 = some (.if_icmp .eq 8, 3, 19, 0, 0, .null) := by decide +kernel
theorem f186_14 : am_tab 186 14 = some (.iload_n 2, 1, 0, 0, 0, .null) := by decide +kernel
theorem f186_15 : am_tab 186 15 = some (.iload_n 1, 1, 0, 0, 0, .null) := by decide +kernel
theorem f186_16 : am_tab 186 16 = some (.if_icmp .le 5, 3, 21, 0, 0, .null) := by decide +kernel
theorem f186_19 : am_tab 186 19 = some (.iconst (-1), 1, 0, 0, 0, .null) := by decide +kernel
theorem f186_20 : am_tab 186 20 = some (.ireturn, 1, 0, 0, 0, .null) := by decide +kernel
theorem f186_21 : am_tab 186 21 = some (.aload_n 0, 1, 0, 0, 0, .null) := by decide +kernel
theorem f186_22 : am_tab 186 22 = some (.dup, 1, 0, 0, 0, .null) := by decide +kernel
theorem f186_23 : am_tab 186 23 = some (.getfield 156, 3, 10, 15, 5043, .null) := by decide +kernel
theorem f186_26 : am_tab 186 26 = some (.iconst 1, 1, 0, 0, 0, .null) := by decide +kernel
theorem f186_27 : am_tab 186 27 = some (.iadd, 1, 0, 0, 0, .null) := by decide +kernel
theorem f186_28 : am_tab 186 28 = some (.putfield 156, 3, 10, 15, 5043, .null) := by decide +kernel
theorem f186_31 : am_tab 186 31 = some (.iload_n 2, 1, 0, 0, 0, .null) := by decide +kernel
theorem f186_32 : am_tab 186 32 = some (.ireturn, 1, 0, 0, 0, .null) := by decide +kernel
theorem f187_0 : am_tab 187 0 = some (.aload_n 0, 1, 0, 0, 0, .null) := by decide +kernel
theorem f187_1 : am_tab 187 1 = some (.iconst 0, 1, 0, 0, 0, .null) := by decide +kernel
theorem f187_2 : am_tab 187 2 = some (.putfield 162, 3, 10, 17, 5045, .null) := by decide +kernel
theorem f187_5 : am_tab 187 5 = some (.iload_n 1, 1, 0, 0, 0, .null) := by decide +kernel
theorem f187_6 : am_tab 187 6 = some (.tableswitch 232 97 119 #[106, 232, 106, 232, 232, 157, 232, 232, 232, 232, 220, 171, 232, 232, 232, 232, 232, 232, 206, 232, 232, 232, 120], 106, 0, 0, 0, .null) := by decide +kernel
theorem f187_112 : am_tab 187 112 = some (.aload_n 0, 1, 0, 0, 0, .null) := by decide +kernel
theorem f187_113 : am_tab 187 113 = some (.aload_n 0, 1, 0, 0, 0, .null) := by decide +kernel
theorem f187_114 : am_tab 187 114 = some (.iconst 0, 1, 0, 0, 0, .null) := by decide +kernel
theorem f187_115 : am_tab 187 115 = some (.bipush 47, 2, 0, 0, 0, .null) := by decide +kernel
theorem f187_117 : am_tab 187 117 = some (.invokevirtual 165, 3, 185, 3, 5127, .int 0) := by decide +kernel
theorem f187_120 : am_tab 187 120 = some (.putfield 168, 3, 10, 16, 5044, .null) := by decide +kernel
theorem f187_123 : am_tab 187 123 = some (.goto 120, 3, 243, 0, 0, .null) := by decide +kernel
theorem f187_126 : am_tab 187 126 = some (.aload_n 0, 1, 0, 0, 0, .null) := by decide +kernel
theorem f187_127 : am_tab 187 127 = some (.aload_n 0, 1, 0, 0, 0, .null) := by decide +kernel
theorem f187_128 : am_tab 187 128 = some (.iconst 0, 1, 0, 0, 0, .null) := by decide +kernel
theorem f187_129 : am_tab 187 129 = some (.bipush 47, 2, 0, 0, 0, .null) := by decide +kernel
theorem f187_131 : am_tab 187 131 = some (.invokevirtual 165, 3, 185, 3, 5127, .int 0) := by decide +kernel
theorem f187_134 : am_tab 187 134 = some (.putfield 168, 3, 10, 16, 5044, .null) := by decide +kernel
theorem f187_137 : am_tab 187 137 = some (.aload_n 0, 1, 0, 0, 0, .null) := by decide +kernel
theorem f187_138 : am_tab 187 138 = some (.aload_n 0, 1, 0, 0, 0, .null) := by decide +kernel
theorem f187_139 : am_tab 187 139 = some (.getfield 168, 3, 10, 16, 5044, .null) := by decide +kernel
theorem f187_142 : am_tab 187 142 = some (.iconst (-1), 1, 0, 0, 0, .null) := by decide +kernel
theorem f187_143 : am_tab 187 143 = some (.if_icmp .ne 7, 3, 150, 0, 0, .null) := by decide +kernel
theorem f187_146 : am_tab 187 146 = some (.iconst (-1), 1, 0, 0, 0, .null) := by decide +kernel
theorem f187_147 : am_tab 187 147 = some (.goto 10, 3, 157, 0, 0, .null) := by decide +kernel
theorem f187_150 : am_tab 187 150 = some (.aload_n 0, 1, 0, 0, 0, .null) := by decide +kernel
theorem f187_151 : am_tab 187 151 = some (.iconst 1, 1, 0, 0, 0, .null) := by decide +kernel
theorem f187_152 : am_tab 187 152 = some (.bipush 99, 2, 0, 0, 0, .null) := by decide +kernel
theorem f187_154 : am_tab 187 154 = some (.invokevirtual 165, 3, 185, 3, 5127, .int 0) := by decide +kernel
theorem f187_157 : am_tab 187 157 = some (.putfield 162, 3, 10, 17, 5045, .null) := by decide +kernel
theorem f187_160 : am_tab 187 160 = some (.goto 83, 3, 243, 0, 0, .null) := by decide +kernel
theorem f187_163 : am_tab 187 163 = some (.aload_n 0, 1, 0, 0, 0, .null) := by decide +kernel
theorem f187_164 : am_tab 187 164 = some (.aload_n 0, 1, 0, 0, 0, .null) := by decide +kernel
theorem f187_165 : am_tab 187 165 = some (.iconst 1, 1, 0, 0, 0, .null) := by decide +kernel
theorem f187_166 : am_tab 187 166 = some (.bipush 47, 2, 0, 0, 0, .null) := by decide +kernel
theorem f187_168 : am_tab 187 168 = some (.invokevirtual 165, 3, 185, 3, 5127, .int 0) := by decide +kernel
theorem f187_171 : am_tab 187 171 = some (.putfield 168, 3, 10, 16, 5044, .null) := by decide +kernel
theorem f187_174 : am_tab 187 174 = some (.goto 69, 3, 243, 0, 0, .null) := by decide +kernel
theorem f187_177 : am_tab 187 177 = some (.aload_n 0, 1, 0, 0, 0, .null) := by decide +kernel
theorem f187_178 : am_tab 187 178 = some (.aload_n 0, 1, 0, 0, 0, .null) := by decide +kernel
theorem f187_179 : am_tab 187 179 = some (.iconst 0, 1, 0, 0, 0, .null) := by decide +kernel
theorem f187_180 : am_tab 187 180 = some (.bipush 11, 2, 0, 0, 0, .null) := by decide +kernel
theorem f187_182 : am_tab 187 182 = some (.invokevirtual 165, 3, 185, 3, 5127, .int 0) := by decide +kernel
theorem f187_185 : am_tab 187 185 = some (.putfield 168, 3, 10, 16, 5044, .null) := by decide +kernel
theorem f187_188 : am_tab 187 188 = some (.aload_n 0, 1, 0, 0, 0, .null) := by decide +kernel
theorem f187_189 : am_tab 187 189 = some (.aload_n 0, 1, 0, 0, 0, .null) := by decide +kernel
theorem f187_190 : am_tab 187 190 = some (.getfield 168, 3, 10, 16, 5044, .null) := by decide +kernel
theorem f187_193 : am_tab 187 193 = some (.iconst (-1), 1, 0, 0, 0, .null) := by decide +kernel
theorem f187_194 : am_tab 187 194 = some (.if_icmp .ne 7, 3, 201, 0, 0, .null) := by decide +kernel
theorem f187_197 : am_tab 187 197 = some (.iconst (-1), 1, 0, 0, 0, .null) := by decide +kernel
theorem f187_198 : am_tab 187 198 = some (.goto 8, 3, 206, 0, 0, .null) := by decide +kernel
theorem f187_201 : am_tab 187 201 = some (.aload_n 0, 1, 0, 0, 0, .null) := by decide +kernel
theorem f187_202 : am_tab 187 202 = some (.iconst 4, 1, 0, 0, 0, .null) := by decide +kernel
theorem f187_203 : am_tab 187 203 = some (.invokevirtual 171, 3, 186, 2, 5135, .int 0) := by decide +kernel
theorem f187_206 : am_tab 187 206 = some (.putfield 162, 3, 10, 17, 5045, .null) := by decide +kernel
theorem f187_209 : am_tab 187 209 = some (.goto 34, 3, 243, 0, 0, .null) := by decide +kernel
theorem f187_212 : am_tab 187 212 = some (.aload_n 0, 1, 0, 0, 0, .null) := by decide +kernel
theorem f187_213 : am_tab 187 213 = some (.aload_n 0, 1, 0, 0, 0, .null) := by decide +kernel
theorem f187_214 : am_tab 187 214 = some (.iconst 1, 1, 0, 0, 0, .null) := by decide +kernel
theorem f187_215 : am_tab 187 215 = some (.bipush 11, 2, 0, 0, 0, .null) := by decide +kernel
theorem f187_217 : am_tab 187 217 = some (.invokevirtual 165, 3, 185, 3, 5127, .int 0) := by decide +kernel
theorem f187_220 : am_tab 187 220 = some (.putfield 168, 3, 10, 16, 5044, .null) := by decide +kernel
theorem f187_223 : am_tab 187 223 = some (.goto 20, 3, 243, 0, 0, .null) := by decide +kernel
theorem f187_226 : am_tab 187 226 = some (.aload_n 0, 1, 0, 0, 0, .null) := by decide +kernel
theorem f187_227 : am_tab 187 227 = some (.aload_n 0, 1, 0, 0, 0, .null) := by decide +kernel
theorem f187_228 : am_tab 187 228 = some (.iconst 2, 1, 0, 0, 0, .null) := by decide +kernel
theorem f187_229 : am_tab 187 229 = some (.invokevirtual 171, 3, 186, 2, 5135, .int 0) := by decide +kernel
theorem f187_232 : am_tab 187 232 = some (.putfield 168, 3, 10, 16, 5044, .null) := by decide +kernel
theorem f187_235 : am_tab 187 235 = some (.goto 8, 3, 243, 0, 0, .null) := by decide +kernel
theorem f187_238 : am_tab 187 238 = some (.aload_n 0, 1, 0, 0, 0, .null) := by decide +kernel
theorem f187_239 : am_tab 187 239 = some (.iconst 0, 1, 0, 0, 0, .null) := by decide +kernel
theorem f187_240 : am_tab 187 240 = some (.putfield 168, 3, 10, 16, 5044, .null) := by decide +kernel
theorem f187_243 : am_tab 187 243 = some (.aload_n 0, 1, 0, 0, 0, .null) := by decide +kernel
theorem f187_244 : am_tab 187 244 = some (.getfield 168, 3, 10, 16, 5044, .null) := by decide +kernel
theorem f187_247 : am_tab 187 247 = some (.iconst (-1), 1, 0, 0, 0, .null) := by decide +kernel
theorem f187_248 : am_tab 187 248 = some (.if_icmp .eq 15, 3, 263, 0, 0, .null) := by decide +kernel
theorem f187_251 : am_tab 187 251 = some (.aload_n 0, 1, 0, 0, 0, .null) := by decide +kernel
theorem f187_252 : am_tab 187 252 = some (.getfield 162, 3, 10, 17, 5045, .null) := by decide +kernel
theorem f187_255 : am_tab 187 255 = some (.iconst (-1), 1, 0, 0, 0, .null) := by decide +kernel
theorem f187_256 : am_tab 187 256 = some (.if_icmp .eq 7, 3, 263, 0, 0, .null) := by decide +kernel
theorem f187_259 : am_tab 187 259 = some (.iconst 1, 1, 0, 0, 0, .null) := by decide +kernel
theorem f187_260 : am_tab 187 260 = some (.goto 4, 3, 264, 0, 0, .null) := by decide +kernel
theorem f187_263 : am_tab 187 263 = some (.iconst 0, 1, 0, 0, 0, .null) := by decide +kernel
theorem f187_264 : am_tab 187 264 = some (.ireturn, 1, 0, 0, 0, .null) := by decide +kernel
theorem f188_0 : am_tab 188 0 = some (.iload_n 0, 1, 0, 0, 0, .null) := by decide +kernel
theorem f188_1 : am_tab 188 1 = some (.bipush 97, 2, 0, 0, 0, .null) := by decide +kernel
theorem f188_3 : am_tab 188 3 = some (.if_icmp .eq 45, 3, 48, 0, 0, .null) := by decide +kernel
theorem f188_6 : am_tab 188 6 = some (.iload_n 0, 1, 0, 0, 0, .null) := by decide +kernel
theorem f188_7 : am_tab 188 7 = some (.bipush 99, 2, 0, 0, 0, .null) := by decide +kernel
theorem f188_9 : am_tab 188 9 = some (.if_icmp .eq 39, 3, 48, 0, 0, .null) := by decide +kernel
theorem f188_12 : am_tab 188 12 = some (.iload_n 0, 1, 0, 0, 0, .null) := by decide +kernel
theorem f188_13 : am_tab 188 13 = some (.bipush 119, 2, 0, 0, 0, .null) := by decide +kernel
theorem f188_15 : am_tab 188 15 = some (.if_icmp .eq 33, 3, 48, 0, 0, .null) := by decide +kernel
theorem f188_18 : am_tab 188 18 = some (.iload_n 0, 1, 0, 0, 0, .null) := by decide +kernel
theorem f188_19 : am_tab 188 19 = some (.bipush 102, 2, 0, 0, 0, .null) := by decide +kernel
theorem f188_21 : am_tab 188 21 = some (.if_icmp .eq 27, 3, 48, 0, 0, .null) := by decide +kernel
theorem f188_24 : am_tab 188 24 = some (.iload_n 0, 1, 0, 0, 0, .null) := by decide +kernel
theorem f188_25 : am_tab 188 25 = some (.bipush 108, 2, 0, 0, 0, .null) := by decide +kernel
theorem f188_27 : am_tab 188 27 = some (.if_icmp .eq 21, 3, 48, 0, 0, .null) := by decide +kernel
theorem f188_30 : am_tab 188 30 = some (.iload_n 0, 1, 0, 0, 0, .null) := by decide +kernel
theorem f188_31 : am_tab 188 31 = some (.bipush 115, 2, 0, 0, 0, .null) := by decide +kernel
theorem f188_33 : am_tab 188 33 = some (.if_icmp .eq 15, 3, 48, 0, 0, .null) := by decide +kernel
theorem f188_36 : am_tab 188 36 = some (.iload_n 0, 1, 0, 0, 0, .null) := by decide +kernel
theorem f188_37 : am_tab 188 37 = some (.bipush 110, 2, 0, 0, 0, .null) := by decide +kernel
theorem f188_39 : am_tab 188 39 = some (.if_icmp .eq 9, 3, 48, 0, 0, .null) := by decide +kernel
theorem f188_42 : am_tab 188 42 = some (.iload_n 0, 1, 0, 0, 0, .null) := by decide +kernel
theorem f188_43 : am_tab 188 43 = some (.bipush 107, 2, 0, 0, 0, .null) := by decide +kernel
theorem f188_45 : am_tab 188 45 = some (.if_icmp .ne 7, 3, 52, 0, 0, .null) := by decide +kernel
theorem f188_48 : am_tab 188 48 = some (.iconst 1, 1, 0, 0, 0, .null) := by decide +kernel
theorem f188_49 : am_tab 188 49 = some (.goto 4, 3, 53, 0, 0, .null) := by decide +kernel
theorem f188_52 : am_tab 188 52 = some (.iconst 0, 1, 0, 0, 0, .null) := by decide +kernel
theorem f188_53 : am_tab 188 53 = some (.ireturn, 1, 0, 0, 0, .null) := by decide +kernel
theorem f189_0 : am_tab 189 0 = some (.aload_n 0, 1, 0, 0, 0, .null) := by decide +kernel
theorem f189_1 : am_tab 189 1 = some (.getfield 38, 3, 10, 13, 5041, .null) := by decide +kernel
theorem f189_4 : am_tab 189 4 = some (.aload_n 0, 1, 0, 0, 0, .null) := by decide +kernel
theorem f189_5 : am_tab 189 5 = some (.getfield 156, 3, 10, 15, 5043, .null) := by decide +kernel
theorem f189_8 : am_tab 189 8 = some (.iaload, 1, 0, 0, 0, .null) := by decide +kernel
theorem f189_9 : am_tab 189 9 = some (.istore_n 1, 1, 0, 0, 0, .null) := by decide +kernel
theorem f189_10 : am_tab 189 10 = some (.iload_n 1, 1, 0, 0, 0, .null) := by decide +kernel
theorem f189_11 : am_tab 189 11 = some (.invokestatic 174, 3, 188, 1, 5120, .int 2) := by decide +kernel
theorem f189_14 : am_tab 189 14 = some (.ifCond .ne 5, 3, 19, 0, 0, .null) := by decide +kernel
theorem f189_17 : am_tab 189 17 = some (.iconst 0, 1, 0, 0, 0, .null) := by decide +kernel
theorem f189_18 : am_tab 189 18 = some (.ireturn, 1, 0, 0, 0, .null) := by decide +kernel
theorem f189_19 : am_tab 189 19 = some (.aload_n 0, 1, 0, 0, 0, .null) := by decide +kernel
theorem f189_20 : am_tab 189 20 = some (.dup, 1, 0, 0, 0, .null) := by decide +kernel
theorem f189_21 : am_tab 189 21 = some (.getfield 156, 3, 10, 15, 5043, .null) := by decide +kernel
theorem f189_24 : am_tab 189 24 = some (.iconst 1, 1, 0, 0, 0, .null) := by decide +kernel
theorem f189_25 : am_tab 189 25 = some (.iadd, 1, 0, 0, 0, .null) := by decide +kernel
theorem f189_26 : am_tab 189 26 = some (.putfield 156, 3, 10, 15, 5043, .null) := by decide +kernel
theorem f189_29 : am_tab 189 29 = some (.aload_n 0, 1, 0, 0, 0, .null) := by decide +kernel
theorem f189_30 : am_tab 189 30 = some (.iload_n 1, 1, 0, 0, 0, .null) := by decide +kernel
theorem f189_31 : am_tab 189 31 = some (.invokevirtual 177, 3, 187, 2, 5123, .int 0) := by decide +kernel
theorem f189_34 : am_tab 189 34 = some (.ireturn, 1, 0, 0, 0, .null) := by decide +kernel
theorem f190_0 : am_tab 190 0 = some (.aload_n 0, 1, 0, 0, 0, .null) := by decide +kernel
theorem f190_1 : am_tab 190 1 = some (.iconst 0, 1, 0, 0, 0, .null) := by decide +kernel
theorem f190_2 : am_tab 190 2 = some (.putfield 156, 3, 10, 15, 5043, .null) := by decide +kernel
theorem f190_5 : am_tab 190 5 = some (.aload_n 0, 1, 0, 0, 0, .null) := by decide +kernel
theorem f190_6 : am_tab 190 6 = some (.getfield 153, 3, 10, 14, 5042, .null) := by decide +kernel
theorem f190_9 : am_tab 190 9 = some (.ifCond .eq 14, 3, 23, 0, 0, .null) := by decide +kernel
theorem f190_12 : am_tab 190 12 = some (.aload_n 0, 1, 0, 0, 0, .null) := by decide +kernel
theorem f190_13 : am_tab 190 13 = some (.getfield 38, 3, 10, 13, 5041, .null) := by decide +kernel
theorem f190_16 : am_tab 190 16 = some (.iconst 0, 1, 0, 0, 0, .null) := by decide +kernel
theorem f190_17 : am_tab 190 17 = some (.iaload, 1, 0, 0, 0, .null) := by decide +kernel
theorem f190_18 : am_tab 190 18 = some (.bipush 77, 2, 0, 0, 0, .null) := by decide +kernel
theorem f190_20 : am_tab 190 20 = some (.if_icmp .eq 5, 3, 25, 0, 0, .null) := by decide +kernel
theorem f190_23 : am_tab 190 23 = some (.iconst 0, 1, 0, 0, 0, .null) := by decide +kernel
theorem f190_24 : am_tab 190 24 = some (.ireturn, 1, 0, 0, 0, .null) := by decide +kernel
theorem f190_25 : am_tab 190 25 = some (.aload_n 0, 1, 0, 0, 0, .null) := by decide +kernel
theorem f190_26 : am_tab 190 26 = some (.iconst 1, 1, 0, 0, 0, .null) := by decide +kernel
theorem f190_27 : am_tab 190 27 = some (.putfield 156, 3, 10, 15, 5043, .null) := by decide +kernel
theorem f190_30 : am_tab 190 30 = some (.aload_n 0, 1, 0, 0, 0, .null) := by decide +kernel
theorem f190_31 : am_tab 190 31 = some (.getfield 156, 3, 10, 15, 5043, .null) := by decide +kernel
theorem f190_34 : am_tab 190 34 = some (.aload_n 0, 1, 0, 0, 0, .null) := by decide +kernel
theorem f190_35 : am_tab 190 35 = some (.getfield 153, 3, 10, 14, 5042, .null) := by decide +kernel
theorem f190_38 : am_tab 190 38 = some (.if_icmp .ge 15, 3, 53, 0, 0, .null) := by decide +kernel
theorem f190_41 : am_tab 190 41 = some (.aload_n 0, 1, 0, 0, 0, .null) := by decide +kernel
theorem f190_42 : am_tab 190 42 = some (.invokevirtual 180, 3, 189, 1, 5116, .int 0) := by decide +kernel
theorem f190_45 : am_tab 190 45 = some (.ifCond .ne (-15), 3, 30, 0, 0, .null) := by decide +kernel
theorem f190_48 : am_tab 190 48 = some (.aload_n 0, 1, 0, 0, 0, .null) := by decide +kernel
theorem f190_49 : am_tab 190 49 = some (.getfield 156, 3, 10, 15, 5043, .null) := by decide +kernel
theorem f190_52 : am_tab 190 52 = some (.ireturn, 1, 0, 0, 0, .null) := by decide +kernel
theorem f190_53 : am_tab 190 53 = some (.iconst (-1), 1, 0, 0, 0, .null) := by decide +kernel
theorem f190_54 : am_tab 190 54 = some (.ireturn, 1, 0, 0, 0, .null) := by decide +kernel
theorem f191_0 : am_tab 191 0 = some (.aload_n 0, 1, 0, 0, 0, .null) := by decide +kernel
theorem f191_1 : am_tab 191 1 = some (.iconst 0, 1, 0, 0, 0, .null) := by decide +kernel
theorem f191_2 : am_tab 191 2 = some (.putfield 50, 3, 10, 6, 5034, .null) := by decide +kernel
theorem f191_5 : am_tab 191 5 = some (.aload_n 0, 1, 0, 0, 0, .null) := by decide +kernel
theorem f191_6 : am_tab 191 6 = some (.invokevirtual 183, 3, 190, 1, 5112, .int 0) := by decide +kernel
theorem f191_9 : am_tab 191 9 = some (.ireturn, 1, 0, 0, 0, .null) := by decide +kernel
theorem f192_0 : am_tab 192 0 = some (.iload_n 1, 1, 0, 0, 0, .null) := by decide +kernel
theorem f192_1 : am_tab 192 1 = some (.tableswitch 180 97 119 #[107, 180, 107, 180, 180, 140, 180, 180, 180, 180, 180, 150, 180, 174, 180, 180, 180, 180, 165, 180, 180, 180, 127], 107, 0, 0, 0, .null) := by decide +kernel
theorem f192_108 : am_tab 192 108 = some (.aload_n 0, 1, 0, 0, 0, .null) := by decide +kernel
theorem f192_109 : am_tab 192 109 = some (.aload_n 0, 1, 0, 0, 0, .null) := by decide +kernel
theorem f192_110 : am_tab 192 110 = some (.getfield 168, 3, 10, 16, 5044, .null) := by decide +kernel
theorem f192_113 : am_tab 192 113 = some (.iload_n 1, 1, 0, 0, 0, .null) := by decide +kernel
theorem f192_114 : am_tab 192 114 = some (.bipush 97, 2, 0, 0, 0, .null) := by decide +kernel
theorem f192_116 : am_tab 192 116 = some (.if_icmp .ne 7, 3, 123, 0, 0, .null) := by decide +kernel
theorem f192_119 : am_tab 192 119 = some (.iconst 1, 1, 0, 0, 0, .null) := by decide +kernel
theorem f192_120 : am_tab 192 120 = some (.goto 4, 3, 124, 0, 0, .null) := by decide +kernel
theorem f192_123 : am_tab 192 123 = some (.iconst 0, 1, 0, 0, 0, .null) := by decide +kernel
theorem f192_124 : am_tab 192 124 = some (.invokevirtual 186, 3, 159, 3, 5147, .int 0) := by decide +kernel
theorem f192_127 : am_tab 192 127 = some (.ireturn, 1, 0, 0, 0, .null) := by decide +kernel
theorem f192_128 : am_tab 192 128 = some (.aload_n 0, 1, 0, 0, 0, .null) := by decide +kernel
theorem f192_129 : am_tab 192 129 = some (.aload_n 0, 1, 0, 0, 0, .null) := by decide +kernel
theorem f192_130 : am_tab 192 130 = some (.getfield 168, 3, 10, 16, 5044, .null) := by decide +kernel
theorem f192_133 : am_tab 192 133 = some (.aload_n 0, 1, 0, 0, 0, .null) := by decide +kernel
theorem f192_134 : am_tab 192 134 = some (.getfield 162, 3, 10, 17, 5045, .null) := by decide +kernel
theorem f192_137 : am_tab 192 137 = some (.invokevirtual 189, 3, 158, 3, 5154, .int 0) := by decide +kernel
theorem f192_140 : am_tab 192 140 = some (.ireturn, 1, 0, 0, 0, .null) := by decide +kernel
theorem f192_141 : am_tab 192 141 = some (.aload_n 0, 1, 0, 0, 0, .null) := by decide +kernel
theorem f192_142 : am_tab 192 142 = some (.aload_n 0, 1, 0, 0, 0, .null) := by decide +kernel
theorem f192_143 : am_tab 192 143 = some (.getfield 168, 3, 10, 16, 5044, .null) := by decide +kernel
theorem f192_146 : am_tab 192 146 = some (.iconst 1, 1, 0, 0, 0, .null) := by decide +kernel
theorem f192_147 : am_tab 192 147 = some (.invokevirtual 193, 3, 162, 3, 5158, .int 0) := by decide +kernel
theorem f192_150 : am_tab 192 150 = some (.ireturn, 1, 0, 0, 0, .null) := by decide +kernel
theorem f192_151 : am_tab 192 151 = some (.aload_n 0, 1, 0, 0, 0, .null) := by decide +kernel
theorem f192_152 : am_tab 192 152 = some (.aload_n 0, 1, 0, 0, 0, .null) := by decide +kernel
theorem f192_153 : am_tab 192 153 = some (.getfield 168, 3, 10, 16, 5044, .null) := by decide +kernel
theorem f192_156 : am_tab 192 156 = some (.aload_n 0, 1, 0, 0, 0, .null) := by decide +kernel
theorem f192_157 : am_tab 192 157 = some (.getfield 162, 3, 10, 17, 5045, .null) := by decide +kernel
theorem f192_160 : am_tab 192 160 = some (.iconst 2, 1, 0, 0, 0, .null) := by decide +kernel
theorem f192_161 : am_tab 192 161 = some (.isub, 1, 0, 0, 0, .null) := by decide +kernel
theorem f192_162 : am_tab 192 162 = some (.invokevirtual 196, 3, 163, 3, 5174, .int 0) := by decide +kernel
theorem f192_165 : am_tab 192 165 = some (.ireturn, 1, 0, 0, 0, .null) := by decide +kernel
theorem f192_166 : am_tab 192 166 = some (.aload_n 0, 1, 0, 0, 0, .null) := by decide +kernel
theorem f192_167 : am_tab 192 167 = some (.aload_n 0, 1, 0, 0, 0, .null) := by decide +kernel
theorem f192_168 : am_tab 192 168 = some (.getfield 168, 3, 10, 16, 5044, .null) := by decide +kernel
theorem f192_171 : am_tab 192 171 = some (.invokevirtual 199, 3, 170, 2, 5182, .int 0) := by decide +kernel
theorem f192_174 : am_tab 192 174 = some (.ireturn, 1, 0, 0, 0, .null) := by decide +kernel
theorem f192_175 : am_tab 192 175 = some (.aload_n 0, 1, 0, 0, 0, .null) := by decide +kernel
theorem f192_176 : am_tab 192 176 = some (.invokevirtual 202, 3, 164, 1, 5198, .int 0) := by decide +kernel
theorem f192_179 : am_tab 192 179 = some (.iconst 1, 1, 0, 0, 0, .null) := by decide +kernel
theorem f192_180 : am_tab 192 180 = some (.ireturn, 1, 0, 0, 0, .null) := by decide +kernel
theorem f192_181 : am_tab 192 181 = some (.aload_n 0, 1, 0, 0, 0, .null) := by decide +kernel
theorem f192_182 : am_tab 192 182 = some (.aload_n 0, 1, 0, 0, 0, .null) := by decide +kernel
theorem f192_183 : am_tab 192 183 = some (.getfield 168, 3, 10, 16, 5044, .null) := by decide +kernel
theorem f192_186 : am_tab 192 186 = some (.invokevirtual 205, 3, 166, 2, 5214, .int 0) := by decide +kernel
theorem f192_189 : am_tab 192 189 = some (.ireturn, 1, 0, 0, 0, .null) := by decide +kernel
theorem f193_0 : am_tab 193 0 = some (.aload_n 0, 1, 0, 0, 0, .null) := by decide +kernel
theorem f193_1 : am_tab 193 1 = some (.iconst 0, 1, 0, 0, 0, .null) := by decide +kernel
theorem f193_2 : am_tab 193 2 = some (.putfield 50, 3, 10, 6, 5034, .null) := by decide +kernel
theorem f193_5 : am_tab 193 5 = some (.aload_n 0, 1, 0, 0, 0, .null) := by decide +kernel
theorem f193_6 : am_tab 193 6 = some (.invokevirtual 183, 3, 190, 1, 5112, .int 0) := by decide +kernel
theorem f193_9 : am_tab 193 9 = some (.iconst (-1), 1, 0, 0, 0, .null) := by decide +kernel
theorem f193_10 : am_tab 193 10 = some (.if_icmp .eq 9, 3, 19, 0, 0, .null) := by decide +kernel
theorem f193_13 : am_tab 193 13 = some (.aload_n 0, 1, 0, 0, 0, .null) := by decide +kernel
theorem f193_14 : am_tab 193 14 = some (.iconst 1, 1, 0, 0, 0, .null) := by decide +kernel
theorem f193_15 : am_tab 193 15 = some (.invokevirtual 150, 3, 144, 2, 5100, .int 0) := by decide +kernel
theorem f193_18 : am_tab 193 18 = some (.ireturn, 1, 0, 0, 0, .null) := by decide +kernel
theorem f193_19 : am_tab 193 19 = some (.aload_n 0, 1, 0, 0, 0, .null) := by decide +kernel
theorem f193_20 : am_tab 193 20 = some (.invokevirtual 47, 3, 146, 1, 5024, .int 0) := by decide +kernel
theorem f193_23 : am_tab 193 23 = some (.aload_n 0, 1, 0, 0, 0, .null) := by decide +kernel
theorem f193_24 : am_tab 193 24 = some (.iconst 0, 1, 0, 0, 0, .null) := by decide +kernel
theorem f193_25 : am_tab 193 25 = some (.putfield 58, 3, 10, 2, 5030, .null) := by decide +kernel
theorem f193_28 : am_tab 193 28 = some (.aload_n 0, 1, 0, 0, 0, .null) := by decide +kernel
theorem f193_29 : am_tab 193 29 = some (.getfield 19, 3, 10, 4, 5032, .null) := by decide +kernel
theorem f193_32 : am_tab 193 32 = some (.iconst 0, 1, 0, 0, 0, .null) := by decide +kernel
theorem f193_33 : am_tab 193 33 = some (.iconst 0, 1, 0, 0, 0, .null) := by decide +kernel
theorem f193_34 : am_tab 193 34 = some (.bastore, 1, 0, 0, 0, .null) := by decide +kernel
theorem f193_35 : am_tab 193 35 = some (.aload_n 0, 1, 0, 0, 0, .null) := by decide +kernel
theorem f193_36 : am_tab 193 36 = some (.getfield 19, 3, 10, 4, 5032, .null) := by decide +kernel
theorem f193_39 : am_tab 193 39 = some (.iconst 1, 1, 0, 0, 0, .null) := by decide +kernel
theorem f193_40 : am_tab 193 40 = some (.iconst 0, 1, 0, 0, 0, .null) := by decide +kernel
theorem f193_41 : am_tab 193 41 = some (.bastore, 1, 0, 0, 0, .null) := by decide +kernel
theorem f193_42 : am_tab 193 42 = some (.iconst 0, 1, 0, 0, 0, .null) := by decide +kernel
theorem f193_43 : am_tab 193 43 = some (.istore_n 1, 1, 0, 0, 0, .null) := by decide +kernel
theorem f193_44 : am_tab 193 44 = some (.aload_n 0, 1, 0, 0, 0, .null) := by decide +kernel
theorem f193_45 : am_tab 193 45 = some (.iconst 1, 1, 0, 0, 0, .null) := by decide +kernel
theorem f193_46 : am_tab 193 46 = some (.putfield 156, 3, 10, 15, 5043, .null) := by decide +kernel
theorem f193_49 : am_tab 193 49 = some (.aload_n 0, 1, 0, 0, 0, .null) := by decide +kernel
theorem f193_50 : am_tab 193 50 = some (.getfield 156, 3, 10, 15, 5043, .null) := by decide +kernel
theorem f193_53 : am_tab 193 53 = some (.aload_n 0, 1, 0, 0, 0, .null) := by decide +kernel
theorem f193_54 : am_tab 193 54 = some (.getfield 153, 3, 10, 14, 5042, .null) := by decide +kernel
theorem f193_57 : am_tab 193 57 = some (.if_icmp .ge 41, 3, 98, 0, 0, .null) := by decide +kernel
theorem f193_60 : am_tab 193 60 = some (.aload_n 0, 1, 0, 0, 0, .null) := by decide +kernel
theorem f193_61 : am_tab 193 61 = some (.getfield 38, 3, 10, 13, 5041, .null) := by decide +kernel
theorem f193_64 : am_tab 193 64 = some (.aload_n 0, 1, 0, 0, 0, .null) := by decide +kernel
theorem f193_65 : am_tab 193 65 = some (.getfield 156, 3, 10, 15, 5043, .null) := by decide +kernel
theorem f193_68 : am_tab 193 68 = some (.iaload, 1, 0, 0, 0, .null) := by decide +kernel
theorem f193_69 : am_tab 193 69 = some (.istore_n 2, 1, 0, 0, 0, .null) := by decide +kernel
theorem f193_70 : am_tab 193 70 = some (.aload_n 0, 1, 0, 0, 0, .null) := by decide +kernel
theorem f193_71 : am_tab 193 71 = some (.invokevirtual 180, 3, 189, 1, 5116, .int 0) := by decide +kernel
theorem f193_74 : am_tab 193 74 = some (.istore_n 3, 1, 0, 0, 0, .null) := by decide +kernel
theorem f193_75 : am_tab 193 75 = some (.iload_n 1, 1, 0, 0, 0, .null) := by decide +kernel
theorem f193_76 : am_tab 193 76 = some (.iload_n 3, 1, 0, 0, 0, .null) := by decide +kernel
theorem f193_77 : am_tab 193 77 = some (.ifCond .eq 15, 3, 92, 0, 0, .null) := by decide +kernel
theorem f193_80 : am_tab 193 80 = some (.aload_n 0, 1, 0, 0, 0, .null) := by decide +kernel
theorem f193_81 : am_tab 193 81 = some (.iload_n 2, 1, 0, 0, 0, .null) := by decide +kernel
theorem f193_82 : am_tab 193 82 = some (.invokevirtual 208, 3, 192, 2, 5143, .int 0) := by decide +kernel
theorem f193_85 : am_tab 193 85 = some (.ifCond .eq 7, 3, 92, 0, 0, .null) := by decide +kernel
theorem f193_88 : am_tab 193 88 = some (.iconst 0, 1, 0, 0, 0, .null) := by decide +kernel
theorem f193_89 : am_tab 193 89 = some (.goto 4, 3, 93, 0, 0, .null) := by decide +kernel
theorem f193_92 : am_tab 193 92 = some (.iconst 1, 1, 0, 0, 0, .null) := by decide +kernel
theorem f193_93 : am_tab 193 93 = some (.iadd, 1, 0, 0, 0, .null) := by decide +kernel
theorem f193_94 : am_tab 193 94 = some (.istore_n 1, 1, 0, 0, 0, .null) := by decide +kernel
theorem f193_95 : am_tab 193 95 = some (.goto (-46), 3, 49, 0, 0, .null) := by decide +kernel
theorem f193_98 : am_tab 193 98 = some (.iload_n 1, 1, 0, 0, 0, .null) := by decide +kernel
theorem f193_99 : am_tab 193 99 = some (.ireturn, 1, 0, 0, 0, .null) := by decide +kernel
theorem f194_0 : am_tab 194 0 = some (.iload_n 1, 1, 0, 0, 0, .null) := by decide +kernel
theorem f194_1 : am_tab 194 1 = some (.tableswitch 140 0 9 #[55, 60, 70, 78, 86, 95, 104, 113, 122, 131], 55, 0, 0, 0, .null) := by decide +kernel
theorem f194_56 : am_tab 194 56 = some (.aload_n 0, 1, 0, 0, 0, .null) := by decide +kernel
theorem f194_57 : am_tab 194 57 = some (.invokevirtual 61, 3, 151, 1, 5166, .int 0) := by decide +kernel
theorem f194_60 : am_tab 194 60 = some (.ireturn, 1, 0, 0, 0, .null) := by decide +kernel
theorem f194_61 : am_tab 194 61 = some (.aload_n 0, 1, 0, 0, 0, .null) := by decide +kernel
theorem f194_62 : am_tab 194 62 = some (.bipush 48, 2, 0, 0, 0, .null) := by decide +kernel
theorem f194_64 : am_tab 194 64 = some (.iconst 0, 1, 0, 0, 0, .null) := by decide +kernel
theorem f194_65 : am_tab 194 65 = some (.bipush 48, 2, 0, 0, 0, .null) := by decide +kernel
theorem f194_67 : am_tab 194 67 = some (.invokevirtual 69, 3, 155, 4, 5230, .int 0) := by decide +kernel
theorem f194_70 : am_tab 194 70 = some (.ireturn, 1, 0, 0, 0, .null) := by decide +kernel
theorem f194_71 : am_tab 194 71 = some (.aload_n 0, 1, 0, 0, 0, .null) := by decide +kernel
theorem f194_72 : am_tab 194 72 = some (.iconst 0, 1, 0, 0, 0, .null) := by decide +kernel
theorem f194_73 : am_tab 194 73 = some (.bipush 48, 2, 0, 0, 0, .null) := by decide +kernel
theorem f194_75 : am_tab 194 75 = some (.invokevirtual 133, 3, 156, 3, 5226, .int 0) := by decide +kernel
theorem f194_78 : am_tab 194 78 = some (.ireturn, 1, 0, 0, 0, .null) := by decide +kernel
theorem f194_79 : am_tab 194 79 = some (.aload_n 0, 1, 0, 0, 0, .null) := by decide +kernel
theorem f194_80 : am_tab 194 80 = some (.iconst 0, 1, 0, 0, 0, .null) := by decide +kernel
theorem f194_81 : am_tab 194 81 = some (.bipush 48, 2, 0, 0, 0, .null) := by decide +kernel
theorem f194_83 : am_tab 194 83 = some (.invokevirtual 90, 3, 157, 3, 5210, .int 0) := by decide +kernel
theorem f194_86 : am_tab 194 86 = some (.ireturn, 1, 0, 0, 0, .null) := by decide +kernel
theorem f194_87 : am_tab 194 87 = some (.aload_n 0, 1, 0, 0, 0, .null) := by decide +kernel
theorem f194_88 : am_tab 194 88 = some (.getfield 7, 3, 10, 0, 5028, .null) := by decide +kernel
theorem f194_91 : am_tab 194 91 = some (.sipush 192, 3, 0, 0, 0, .null) := by decide +kernel
theorem f194_94 : am_tab 194 94 = some (.iaload, 1, 0, 0, 0, .null) := by decide +kernel
theorem f194_95 : am_tab 194 95 = some (.ireturn, 1, 0, 0, 0, .null) := by decide +kernel
theorem f194_96 : am_tab 194 96 = some (.aload_n 0, 1, 0, 0, 0, .null) := by decide +kernel
theorem f194_97 : am_tab 194 97 = some (.getfield 7, 3, 10, 0, 5028, .null) := by decide +kernel
theorem f194_100 : am_tab 194 100 = some (.sipush 217, 3, 0, 0, 0, .null) := by decide +kernel
theorem f194_103 : am_tab 194 103 = some (.iaload, 1, 0, 0, 0, .null) := by decide +kernel
theorem f194_104 : am_tab 194 104 = some (.ireturn, 1, 0, 0, 0, .null) := by decide +kernel
theorem f194_105 : am_tab 194 105 = some (.aload_n 0, 1, 0, 0, 0, .null) := by decide +kernel
theorem f194_106 : am_tab 194 106 = some (.getfield 7, 3, 10, 0, 5028, .null) := by decide +kernel
theorem f194_109 : am_tab 194 109 = some (.sipush 266, 3, 0, 0, 0, .null) := by decide +kernel
theorem f194_112 : am_tab 194 112 = some (.iaload, 1, 0, 0, 0, .null) := by decide +kernel
theorem f194_113 : am_tab 194 113 = some (.ireturn, 1, 0, 0, 0, .null) := by decide +kernel
theorem f194_114 : am_tab 194 114 = some (.aload_n 0, 1, 0, 0, 0, .null) := by decide +kernel
theorem f194_115 : am_tab 194 115 = some (.getfield 7, 3, 10, 0, 5028, .null) := by decide +kernel
theorem f194_118 : am_tab 194 118 = some (.sipush 267, 3, 0, 0, 0, .null) := by decide +kernel
theorem f194_121 : am_tab 194 121 = some (.iaload, 1, 0, 0, 0, .null) := by decide +kernel
theorem f194_122 : am_tab 194 122 = some (.ireturn, 1, 0, 0, 0, .null) := by decide +kernel
theorem f194_123 : am_tab 194 123 = some (.aload_n 0, 1, 0, 0, 0, .null) := by decide +kernel
theorem f194_124 : am_tab 194 124 = some (.getfield 7, 3, 10, 0, 5028, .null) := by decide +kernel
theorem f194_127 : am_tab 194 127 = some (.sipush 268, 3, 0, 0, 0, .null) := by decide +kernel
theorem f194_130 : am_tab 194 130 = some (.iaload, 1, 0, 0, 0, .null) := by decide +kernel
theorem f194_131 : am_tab 194 131 = some (.ireturn, 1, 0, 0, 0, .null) := by decide +kernel
theorem f194_132 : am_tab 194 132 = some (.aload_n 0, 1, 0, 0, 0, .null) := by decide +kernel
theorem f194_133 : am_tab 194 133 = some (.getfield 7, 3, 10, 0, 5028, .null) := by decide +kernel
theorem f194_136 : am_tab 194 136 = some (.sipush 269, 3, 0, 0, 0, .null) := by decide +kernel
theorem f194_139 : am_tab 194 139 = some (.iaload, 1, 0, 0, 0, .null) := by decide +kernel
theorem f194_140 : am_tab 194 140 = some (.ireturn, 1, 0, 0, 0, .null) := by decide +kernel
theorem f194_141 : am_tab 194 141 = some (.aload_n 0, 1, 0, 0, 0, .null) := by decide +kernel
theorem f194_142 : am_tab 194 142 = some (.bipush 96, 2, 0, 0, 0, .null) := by decide +kernel
theorem f194_144 : am_tab 194 144 = some (.iconst 0, 1, 0, 0, 0, .null) := by decide +kernel
theorem f194_145 : am_tab 194 145 = some (.bipush 48, 2, 0, 0, 0, .null) := by decide +kernel
theorem f194_147 : am_tab 194 147 = some (.invokevirtual 69, 3, 155, 4, 5230, .int 0) := by decide +kernel
theorem f194_150 : am_tab 194 150 = some (.ireturn, 1, 0, 0, 0, .null) := by decide +kernel
theorem f195_0 : am_tab 195 0 = some (.aload_n 0, 1, 0, 0, 0, .null) := by decide +kernel
theorem f195_1 : am_tab 195 1 = some (.iconst 0, 1, 0, 0, 0, .null) := by decide +kernel
theorem f195_2 : am_tab 195 2 = some (.putfield 50, 3, 10, 6, 5034, .null) := by decide +kernel
theorem f195_5 : am_tab 195 5 = some (.iload_n 1, 1, 0, 0, 0, .null) := by decide +kernel
theorem f195_6 : am_tab 195 6 = some (.iconst 0, 1, 0, 0, 0, .null) := by decide +kernel
theorem f195_7 : am_tab 195 7 = some (.bipush 10, 2, 0, 0, 0, .null) := by decide +kernel
theorem f195_9 : am_tab 195 9 = some (.invokestatic 54, 3, 145, 3, 5097, .int 2) := by decide +kernel
theorem f195_12 : am_tab 195 12 = some (.ifCond .eq 11, 3, 23, 0, 0, .null) := by decide +kernel
theorem f195_15 : am_tab 195 15 = some (.aload_n 0, 1, 0, 0, 0, .null) := by decide +kernel
theorem f195_16 : am_tab 195 16 = some (.iload_n 1, 1, 0, 0, 0, .null) := by decide +kernel
theorem f195_17 : am_tab 195 17 = some (.invokevirtual 211, 3, 194, 2, 6035, .int 0) := by decide +kernel
theorem f195_20 : am_tab 195 20 = some (.goto 8, 3, 28, 0, 0, .null) := by decide +kernel
theorem f195_23 : am_tab 195 23 = some (.aload_n 0, 1, 0, 0, 0, .null) := by decide +kernel
theorem f195_24 : am_tab 195 24 = some (.iconst 1, 1, 0, 0, 0, .null) := by decide +kernel
theorem f195_25 : am_tab 195 25 = some (.invokevirtual 150, 3, 144, 2, 5100, .int 0) := by decide +kernel
theorem f195_28 : am_tab 195 28 = some (.ireturn, 1, 0, 0, 0, .null) := by decide +kernel
theorem f196_0 : am_tab 196 0 = some (.iload_n 2, 1, 0, 0, 0, .null) := by decide +kernel
theorem f196_1 : am_tab 196 1 = some (.tableswitch 66 0 3 #[31, 40, 50, 60], 31, 0, 0, 0, .null) := by decide +kernel
theorem f196_32 : am_tab 196 32 = some (.aload_n 0, 1, 0, 0, 0, .null) := by decide +kernel
theorem f196_33 : am_tab 196 33 = some (.getfield 7, 3, 10, 0, 5028, .null) := by decide +kernel
theorem f196_36 : am_tab 196 36 = some (.iconst 0, 1, 0, 0, 0, .null) := by decide +kernel
theorem f196_37 : am_tab 196 37 = some (.iload_n 1, 1, 0, 0, 0, .null) := by decide +kernel
theorem f196_38 : am_tab 196 38 = some (.iadd, 1, 0, 0, 0, .null) := by decide +kernel
theorem f196_39 : am_tab 196 39 = some (.iaload, 1, 0, 0, 0, .null) := by decide +kernel
theorem f196_40 : am_tab 196 40 = some (.ireturn, 1, 0, 0, 0, .null) := by decide +kernel
theorem f196_41 : am_tab 196 41 = some (.aload_n 0, 1, 0, 0, 0, .null) := by decide +kernel
theorem f196_42 : am_tab 196 42 = some (.getfield 7, 3, 10, 0, 5028, .null) := by decide +kernel
theorem f196_45 : am_tab 196 45 = some (.bipush 48, 2, 0, 0, 0, .null) := by decide +kernel
theorem f196_47 : am_tab 196 47 = some (.iload_n 1, 1, 0, 0, 0, .null) := by decide +kernel
theorem f196_48 : am_tab 196 48 = some (.iadd, 1, 0, 0, 0, .null) := by decide +kernel
theorem f196_49 : am_tab 196 49 = some (.iaload, 1, 0, 0, 0, .null) := by decide +kernel
theorem f196_50 : am_tab 196 50 = some (.ireturn, 1, 0, 0, 0, .null) := by decide +kernel
theorem f196_51 : am_tab 196 51 = some (.aload_n 0, 1, 0, 0, 0, .null) := by decide +kernel
theorem f196_52 : am_tab 196 52 = some (.getfield 7, 3, 10, 0, 5028, .null) := by decide +kernel
theorem f196_55 : am_tab 196 55 = some (.bipush 96, 2, 0, 0, 0, .null) := by decide +kernel
theorem f196_57 : am_tab 196 57 = some (.iload_n 1, 1, 0, 0, 0, .null) := by decide +kernel
theorem f196_58 : am_tab 196 58 = some (.iadd, 1, 0, 0, 0, .null) := by decide +kernel
theorem f196_59 : am_tab 196 59 = some (.iaload, 1, 0, 0, 0, .null) := by decide +kernel
theorem f196_60 : am_tab 196 60 = some (.ireturn, 1, 0, 0, 0, .null) := by decide +kernel
theorem f196_61 : am_tab 196 61 = some (.aload_n 0, 1, 0, 0, 0, .null) := by decide +kernel
theorem f196_62 : am_tab 196 62 = some (.iload_n 1, 1, 0, 0, 0, .null) := by decide +kernel
theorem f196_63 : am_tab 196 63 = some (.invokevirtual 65, 3, 153, 2, 5206, .int 0) := by decide +kernel
theorem f196_66 : am_tab 196 66 = some (.ireturn, 1, 0, 0, 0, .null) := by decide +kernel
theorem f196_67 : am_tab 196 67 = some (.aload_n 0, 1, 0, 0, 0, .null) := by decide +kernel
theorem f196_68 : am_tab 196 68 = some (.getfield 7, 3, 10, 0, 5028, .null) := by decide +kernel
theorem f196_71 : am_tab 196 71 = some (.sipush 218, 3, 0, 0, 0, .null) := by decide +kernel
theorem f196_74 : am_tab 196 74 = some (.iload_n 1, 1, 0, 0, 0, .null) := by decide +kernel
theorem f196_75 : am_tab 196 75 = some (.iadd, 1, 0, 0, 0, .null) := by decide +kernel
theorem f196_76 : am_tab 196 76 = some (.iaload, 1, 0, 0, 0, .null) := by decide +kernel
theorem f196_77 : am_tab 196 77 = some (.ireturn, 1, 0, 0, 0, .null) := by decide +kernel
theorem f197_0 : am_tab 197 0 = some (.aload_n 0, 1, 0, 0, 0, .null) := by decide +kernel
theorem f197_1 : am_tab 197 1 = some (.iconst 0, 1, 0, 0, 0, .null) := by decide +kernel
theorem f197_2 : am_tab 197 2 = some (.putfield 50, 3, 10, 6, 5034, .null) := by decide +kernel
theorem f197_5 : am_tab 197 5 = some (.iload_n 1, 1, 0, 0, 0, .null) := by decide +kernel
theorem f197_6 : am_tab 197 6 = some (.invokestatic 73, 3, 147, 1, 5151, .int 2) := by decide +kernel
theorem f197_9 : am_tab 197 9 = some (.ifCond .ne 9, 3, 18, 0, 0, .null) := by decide +kernel
theorem f197_12 : am_tab 197 12 = some (.aload_n 0, 1, 0, 0, 0, .null) := by decide +kernel
theorem f197_13 : am_tab 197 13 = some (.iconst 1, 1, 0, 0, 0, .null) := by decide +kernel
theorem f197_14 : am_tab 197 14 = some (.invokevirtual 150, 3, 144, 2, 5100, .int 0) := by decide +kernel
theorem f197_17 : am_tab 197 17 = some (.ireturn, 1, 0, 0, 0, .null) := by decide +kernel
theorem f197_18 : am_tab 197 18 = some (.iload_n 2, 1, 0, 0, 0, .null) := by decide +kernel
theorem f197_19 : am_tab 197 19 = some (.iconst 0, 1, 0, 0, 0, .null) := by decide +kernel
theorem f197_20 : am_tab 197 20 = some (.iconst 4, 1, 0, 0, 0, .null) := by decide +kernel
theorem f197_21 : am_tab 197 21 = some (.invokestatic 54, 3, 145, 3, 5097, .int 2) := by decide +kernel
theorem f197_24 : am_tab 197 24 = some (.ifCond .eq 12, 3, 36, 0, 0, .null) := by decide +kernel
theorem f197_27 : am_tab 197 27 = some (.aload_n 0, 1, 0, 0, 0, .null) := by decide +kernel
theorem f197_28 : am_tab 197 28 = some (.iload_n 1, 1, 0, 0, 0, .null) := by decide +kernel
theorem f197_29 : am_tab 197 29 = some (.iload_n 2, 1, 0, 0, 0, .null) := by decide +kernel
theorem f197_30 : am_tab 197 30 = some (.invokevirtual 214, 3, 196, 3, 6043, .int 0) := by decide +kernel
theorem f197_33 : am_tab 197 33 = some (.goto 8, 3, 41, 0, 0, .null) := by decide +kernel
theorem f197_36 : am_tab 197 36 = some (.aload_n 0, 1, 0, 0, 0, .null) := by decide +kernel
theorem f197_37 : am_tab 197 37 = some (.iconst 2, 1, 0, 0, 0, .null) := by decide +kernel
theorem f197_38 : am_tab 197 38 = some (.invokevirtual 150, 3, 144, 2, 5100, .int 0) := by decide +kernel
theorem f197_41 : am_tab 197 41 = some (.ireturn, 1, 0, 0, 0, .null) := by decide +kernel
theorem f198_0 : am_tab 198 0 = some (.aload_n 0, 1, 0, 0, 0, .null) := by decide +kernel
theorem f198_1 : am_tab 198 1 = some (.iload_n 1, 1, 0, 0, 0, .null) := by decide +kernel
theorem f198_2 : am_tab 198 2 = some (.invokevirtual 87, 3, 154, 2, 5202, .int 0) := by decide +kernel
theorem f198_5 : am_tab 198 5 = some (.istore_n 3, 1, 0, 0, 0, .null) := by decide +kernel
theorem f198_6 : am_tab 198 6 = some (.aload_n 0, 1, 0, 0, 0, .null) := by decide +kernel
theorem f198_7 : am_tab 198 7 = some (.iload_n 1, 1, 0, 0, 0, .null) := by decide +kernel
theorem f198_8 : am_tab 198 8 = some (.iconst 1, 1, 0, 0, 0, .null) := by decide +kernel
theorem f198_9 : am_tab 198 9 = some (.iadd, 1, 0, 0, 0, .null) := by decide +kernel
theorem f198_10 : am_tab 198 10 = some (.invokevirtual 87, 3, 154, 2, 5202, .int 0) := by decide +kernel
theorem f198_13 : am_tab 198 13 = some (.istore 4, 2, 0, 0, 0, .null) := by decide +kernel
theorem f198_15 : am_tab 198 15 = some (.iload_n 2, 1, 0, 0, 0, .null) := by decide +kernel
theorem f198_16 : am_tab 198 16 = some (.tableswitch 70 0 4 #[36, 38, 43, 51, 59], 36, 0, 0, 0, .null) := by decide +kernel
theorem f198_52 : am_tab 198 52 = some (.iload_n 3, 1, 0, 0, 0, .null) := by decide +kernel
theorem f198_53 : am_tab 198 53 = some (.ireturn, 1, 0, 0, 0, .null) := by decide +kernel
theorem f198_54 : am_tab 198 54 = some (.iload 4, 2, 0, 0, 0, .null) := by decide +kernel
theorem f198_56 : am_tab 198 56 = some (.iload_n 3, 1, 0, 0, 0, .null) := by decide +kernel
theorem f198_57 : am_tab 198 57 = some (.isub, 1, 0, 0, 0, .null) := by decide +kernel
theorem f198_58 : am_tab 198 58 = some (.ireturn, 1, 0, 0, 0, .null) := by decide +kernel
theorem f198_59 : am_tab 198 59 = some (.aload_n 0, 1, 0, 0, 0, .null) := by decide +kernel
theorem f198_60 : am_tab 198 60 = some (.iload_n 3, 1, 0, 0, 0, .null) := by decide +kernel
theorem f198_61 : am_tab 198 61 = some (.iload 4, 2, 0, 0, 0, .null) := by decide +kernel
theorem f198_63 : am_tab 198 63 = some (.invokevirtual 133, 3, 156, 3, 5226, .int 0) := by decide +kernel
theorem f198_66 : am_tab 198 66 = some (.ireturn, 1, 0, 0, 0, .null) := by decide +kernel
theorem f198_67 : am_tab 198 67 = some (.aload_n 0, 1, 0, 0, 0, .null) := by decide +kernel
theorem f198_68 : am_tab 198 68 = some (.iload_n 3, 1, 0, 0, 0, .null) := by decide +kernel
theorem f198_69 : am_tab 198 69 = some (.iload 4, 2, 0, 0, 0, .null) := by decide +kernel
theorem f198_71 : am_tab 198 71 = some (.invokevirtual 90, 3, 157, 3, 5210, .int 0) := by decide +kernel
theorem f198_74 : am_tab 198 74 = some (.ireturn, 1, 0, 0, 0, .null) := by decide +kernel
theorem f198_75 : am_tab 198 75 = some (.aload_n 0, 1, 0, 0, 0, .null) := by decide +kernel
theorem f198_76 : am_tab 198 76 = some (.getfield 7, 3, 10, 0, 5028, .null) := by decide +kernel
theorem f198_79 : am_tab 198 79 = some (.sipush 205, 3, 0, 0, 0, .null) := by decide +kernel
theorem f198_82 : am_tab 198 82 = some (.iload_n 1, 1, 0, 0, 0, .null) := by decide +kernel
theorem f198_83 : am_tab 198 83 = some (.iadd, 1, 0, 0, 0, .null) := by decide +kernel
theorem f198_84 : am_tab 198 84 = some (.iaload, 1, 0, 0, 0, .null) := by decide +kernel
theorem f198_85 : am_tab 198 85 = some (.ireturn, 1, 0, 0, 0, .null) := by decide +kernel
theorem f198_86 : am_tab 198 86 = some (.aload_n 0, 1, 0, 0, 0, .null) := by decide +kernel
theorem f198_87 : am_tab 198 87 = some (.getfield 7, 3, 10, 0, 5028, .null) := by decide +kernel
theorem f198_90 : am_tab 198 90 = some (.sipush 193, 3, 0, 0, 0, .null) := by decide +kernel
theorem f198_93 : am_tab 198 93 = some (.iload_n 1, 1, 0, 0, 0, .null) := by decide +kernel
theorem f198_94 : am_tab 198 94 = some (.iadd, 1, 0, 0, 0, .null) := by decide +kernel
theorem f198_95 : am_tab 198 95 = some (.iaload, 1, 0, 0, 0, .null) := by decide +kernel
theorem f198_96 : am_tab 198 96 = some (.ireturn, 1, 0, 0, 0, .null) := by decide +kernel
theorem f199_0 : am_tab 199 0 = some (.aload_n 0, 1, 0, 0, 0, .null) := by decide +kernel
theorem f199_1 : am_tab 199 1 = some (.iconst 0, 1, 0, 0, 0, .null) := by decide +kernel
theorem f199_2 : am_tab 199 2 = some (.putfield 50, 3, 10, 6, 5034, .null) := by decide +kernel
theorem f199_5 : am_tab 199 5 = some (.aload_n 0, 1, 0, 0, 0, .null) := by decide +kernel
theorem f199_6 : am_tab 199 6 = some (.iload_n 1, 1, 0, 0, 0, .null) := by decide +kernel
theorem f199_7 : am_tab 199 7 = some (.invokevirtual 84, 3, 152, 2, 5178, .int 0) := by decide +kernel
theorem f199_10 : am_tab 199 10 = some (.ifCond .ne 9, 3, 19, 0, 0, .null) := by decide +kernel
theorem f199_13 : am_tab 199 13 = some (.aload_n 0, 1, 0, 0, 0, .null) := by decide +kernel
theorem f199_14 : am_tab 199 14 = some (.iconst 1, 1, 0, 0, 0, .null) := by decide +kernel
theorem f199_15 : am_tab 199 15 = some (.invokevirtual 150, 3, 144, 2, 5100, .int 0) := by decide +kernel
theorem f199_18 : am_tab 199 18 = some (.ireturn, 1, 0, 0, 0, .null) := by decide +kernel
theorem f199_19 : am_tab 199 19 = some (.iload_n 2, 1, 0, 0, 0, .null) := by decide +kernel
theorem f199_20 : am_tab 199 20 = some (.iconst 0, 1, 0, 0, 0, .null) := by decide +kernel
theorem f199_21 : am_tab 199 21 = some (.iconst 5, 1, 0, 0, 0, .null) := by decide +kernel
theorem f199_22 : am_tab 199 22 = some (.invokestatic 54, 3, 145, 3, 5097, .int 2) := by decide +kernel
theorem f199_25 : am_tab 199 25 = some (.ifCond .ne 9, 3, 34, 0, 0, .null) := by decide +kernel
theorem f199_28 : am_tab 199 28 = some (.aload_n 0, 1, 0, 0, 0, .null) := by decide +kernel
theorem f199_29 : am_tab 199 29 = some (.iconst 2, 1, 0, 0, 0, .null) := by decide +kernel
theorem f199_30 : am_tab 199 30 = some (.invokevirtual 150, 3, 144, 2, 5100, .int 0) := by decide +kernel
theorem f199_33 : am_tab 199 33 = some (.ireturn, 1, 0, 0, 0, .null) := by decide +kernel
theorem f199_34 : am_tab 199 34 = some (.iload_n 2, 1, 0, 0, 0, .null) := by decide +kernel
theorem f199_35 : am_tab 199 35 = some (.iconst 5, 1, 0, 0, 0, .null) := by decide +kernel
theorem f199_36 : am_tab 199 36 = some (.if_icmp .ne 22, 3, 58, 0, 0, .null) := by decide +kernel
theorem f199_39 : am_tab 199 39 = some (.aload_n 0, 1, 0, 0, 0, .null) := by decide +kernel
theorem f199_40 : am_tab 199 40 = some (.getfield 7, 3, 10, 0, 5028, .null) := by decide +kernel
theorem f199_43 : am_tab 199 43 = some (.sipush 192, 3, 0, 0, 0, .null) := by decide +kernel
theorem f199_46 : am_tab 199 46 = some (.iaload, 1, 0, 0, 0, .null) := by decide +kernel
theorem f199_47 : am_tab 199 47 = some (.ifCond .ne 11, 3, 58, 0, 0, .null) := by decide +kernel
theorem f199_50 : am_tab 199 50 = some (.aload_n 0, 1, 0, 0, 0, .null) := by decide +kernel
theorem f199_51 : am_tab 199 51 = some (.iconst 3, 1, 0, 0, 0, .null) := by decide +kernel
theorem f199_52 : am_tab 199 52 = some (.invokevirtual 150, 3, 144, 2, 5100, .int 0) := by decide +kernel
theorem f199_55 : am_tab 199 55 = some (.goto 9, 3, 64, 0, 0, .null) := by decide +kernel
theorem f199_58 : am_tab 199 58 = some (.aload_n 0, 1, 0, 0, 0, .null) := by decide +kernel
theorem f199_59 : am_tab 199 59 = some (.iload_n 1, 1, 0, 0, 0, .null) := by decide +kernel
theorem f199_60 : am_tab 199 60 = some (.iload_n 2, 1, 0, 0, 0, .null) := by decide +kernel
theorem f199_61 : am_tab 199 61 = some (.invokevirtual 217, 3, 198, 3, 6051, .int 0) := by decide +kernel
theorem f199_64 : am_tab 199 64 = some (.ireturn, 1, 0, 0, 0, .null) := by decide +kernel
theorem f200_0 : am_tab 200 0 = some (.aload_n 0, 1, 0, 0, 0, .null) := by decide +kernel
theorem f200_1 : am_tab 200 1 = some (.iconst 0, 1, 0, 0, 0, .null) := by decide +kernel
theorem f200_2 : am_tab 200 2 = some (.putfield 50, 3, 10, 6, 5034, .null) := by decide +kernel
theorem f200_5 : am_tab 200 5 = some (.iload_n 1, 1, 0, 0, 0, .null) := by decide +kernel
theorem f200_6 : am_tab 200 6 = some (.invokestatic 73, 3, 147, 1, 5151, .int 2) := by decide +kernel
theorem f200_9 : am_tab 200 9 = some (.ifCond .ne 9, 3, 18, 0, 0, .null) := by decide +kernel
theorem f200_12 : am_tab 200 12 = some (.aload_n 0, 1, 0, 0, 0, .null) := by decide +kernel
theorem f200_13 : am_tab 200 13 = some (.iconst 1, 1, 0, 0, 0, .null) := by decide +kernel
theorem f200_14 : am_tab 200 14 = some (.invokevirtual 150, 3, 144, 2, 5100, .int 0) := by decide +kernel
theorem f200_17 : am_tab 200 17 = some (.ireturn, 1, 0, 0, 0, .null) := by decide +kernel
theorem f200_18 : am_tab 200 18 = some (.iload_n 2, 1, 0, 0, 0, .null) := by decide +kernel
theorem f200_19 : am_tab 200 19 = some (.iconst 1, 1, 0, 0, 0, .null) := by decide +kernel
theorem f200_20 : am_tab 200 20 = some (.bipush 99, 2, 0, 0, 0, .null) := by decide +kernel
theorem f200_22 : am_tab 200 22 = some (.invokestatic 54, 3, 145, 3, 5097, .int 2) := by decide +kernel
theorem f200_25 : am_tab 200 25 = some (.ifCond .ne 9, 3, 34, 0, 0, .null) := by decide +kernel
theorem f200_28 : am_tab 200 28 = some (.aload_n 0, 1, 0, 0, 0, .null) := by decide +kernel
theorem f200_29 : am_tab 200 29 = some (.iconst 2, 1, 0, 0, 0, .null) := by decide +kernel
theorem f200_30 : am_tab 200 30 = some (.invokevirtual 150, 3, 144, 2, 5100, .int 0) := by decide +kernel
theorem f200_33 : am_tab 200 33 = some (.ireturn, 1, 0, 0, 0, .null) := by decide +kernel
theorem f200_34 : am_tab 200 34 = some (.aload_n 0, 1, 0, 0, 0, .null) := by decide +kernel
theorem f200_35 : am_tab 200 35 = some (.invokevirtual 220, 3, 148, 1, 6059, .int 0) := by decide +kernel
theorem f200_38 : am_tab 200 38 = some (.aload_n 0, 1, 0, 0, 0, .null) := by decide +kernel
theorem f200_39 : am_tab 200 39 = some (.getfield 7, 3, 10, 0, 5028, .null) := by decide +kernel
theorem f200_42 : am_tab 200 42 = some (.iconst 0, 1, 0, 0, 0, .null) := by decide +kernel
theorem f200_43 : am_tab 200 43 = some (.iload_n 1, 1, 0, 0, 0, .null) := by decide +kernel
theorem f200_44 : am_tab 200 44 = some (.iadd, 1, 0, 0, 0, .null) := by decide +kernel
theorem f200_45 : am_tab 200 45 = some (.iaload, 1, 0, 0, 0, .null) := by decide +kernel
theorem f200_46 : am_tab 200 46 = some (.istore_n 3, 1, 0, 0, 0, .null) := by decide +kernel
theorem f200_47 : am_tab 200 47 = some (.aload_n 0, 1, 0, 0, 0, .null) := by decide +kernel
theorem f200_48 : am_tab 200 48 = some (.getfield 7, 3, 10, 0, 5028, .null) := by decide +kernel
theorem f200_51 : am_tab 200 51 = some (.iconst 0, 1, 0, 0, 0, .null) := by decide +kernel
theorem f200_52 : am_tab 200 52 = some (.iload_n 1, 1, 0, 0, 0, .null) := by decide +kernel
theorem f200_53 : am_tab 200 53 = some (.iadd, 1, 0, 0, 0, .null) := by decide +kernel
theorem f200_54 : am_tab 200 54 = some (.iload_n 2, 1, 0, 0, 0, .null) := by decide +kernel
theorem f200_55 : am_tab 200 55 = some (.iastore, 1, 0, 0, 0, .null) := by decide +kernel
theorem f200_56 : am_tab 200 56 = some (.iload_n 3, 1, 0, 0, 0, .null) := by decide +kernel
theorem f200_57 : am_tab 200 57 = some (.ireturn, 1, 0, 0, 0, .null) := by decide +kernel
theorem f201_0 : am_tab 201 0 = some (.aload_n 0, 1, 0, 0, 0, .null) := by decide +kernel
theorem f201_1 : am_tab 201 1 = some (.iconst 0, 1, 0, 0, 0, .null) := by decide +kernel
theorem f201_2 : am_tab 201 2 = some (.putfield 50, 3, 10, 6, 5034, .null) := by decide +kernel
theorem f201_5 : am_tab 201 5 = some (.iload_n 1, 1, 0, 0, 0, .null) := by decide +kernel
theorem f201_6 : am_tab 201 6 = some (.invokestatic 73, 3, 147, 1, 5151, .int 2) := by decide +kernel
theorem f201_9 : am_tab 201 9 = some (.ifCond .ne 9, 3, 18, 0, 0, .null) := by decide +kernel
theorem f201_12 : am_tab 201 12 = some (.aload_n 0, 1, 0, 0, 0, .null) := by decide +kernel
theorem f201_13 : am_tab 201 13 = some (.iconst 1, 1, 0, 0, 0, .null) := by decide +kernel
theorem f201_14 : am_tab 201 14 = some (.invokevirtual 150, 3, 144, 2, 5100, .int 0) := by decide +kernel
theorem f201_17 : am_tab 201 17 = some (.ireturn, 1, 0, 0, 0, .null) := by decide +kernel
theorem f201_18 : am_tab 201 18 = some (.aload_n 0, 1, 0, 0, 0, .null) := by decide +kernel
theorem f201_19 : am_tab 201 19 = some (.invokevirtual 220, 3, 148, 1, 6059, .int 0) := by decide +kernel
theorem f201_22 : am_tab 201 22 = some (.aload_n 0, 1, 0, 0, 0, .null) := by decide +kernel
theorem f201_23 : am_tab 201 23 = some (.getfield 7, 3, 10, 0, 5028, .null) := by decide +kernel
theorem f201_26 : am_tab 201 26 = some (.bipush 48, 2, 0, 0, 0, .null) := by decide +kernel
theorem f201_28 : am_tab 201 28 = some (.iload_n 1, 1, 0, 0, 0, .null) := by decide +kernel
theorem f201_29 : am_tab 201 29 = some (.iadd, 1, 0, 0, 0, .null) := by decide +kernel
theorem f201_30 : am_tab 201 30 = some (.iload_n 2, 1, 0, 0, 0, .null) := by decide +kernel
theorem f201_31 : am_tab 201 31 = some (.ifCond .eq 7, 3, 38, 0, 0, .null) := by decide +kernel
theorem f201_34 : am_tab 201 34 = some (.iconst 1, 1, 0, 0, 0, .null) := by decide +kernel
theorem f201_35 : am_tab 201 35 = some (.goto 4, 3, 39, 0, 0, .null) := by decide +kernel
theorem f201_38 : am_tab 201 38 = some (.iconst 0, 1, 0, 0, 0, .null) := by decide +kernel
theorem f201_39 : am_tab 201 39 = some (.iastore, 1, 0, 0, 0, .null) := by decide +kernel
theorem f201_40 : am_tab 201 40 = some (.aload_n 0, 1, 0, 0, 0, .null) := by decide +kernel
theorem f201_41 : am_tab 201 41 = some (.bipush 48, 2, 0, 0, 0, .null) := by decide +kernel
theorem f201_43 : am_tab 201 43 = some (.iconst 0, 1, 0, 0, 0, .null) := by decide +kernel
theorem f201_44 : am_tab 201 44 = some (.bipush 48, 2, 0, 0, 0, .null) := by decide +kernel
theorem f201_46 : am_tab 201 46 = some (.invokevirtual 69, 3, 155, 4, 5230, .int 0) := by decide +kernel
theorem f201_49 : am_tab 201 49 = some (.ireturn, 1, 0, 0, 0, .null) := by decide +kernel
theorem f202_0 : am_tab 202 0 = some (.aload_n 0, 1, 0, 0, 0, .null) := by decide +kernel
theorem f202_1 : am_tab 202 1 = some (.iconst 0, 1, 0, 0, 0, .null) := by decide +kernel
theorem f202_2 : am_tab 202 2 = some (.putfield 50, 3, 10, 6, 5034, .null) := by decide +kernel
theorem f202_5 : am_tab 202 5 = some (.iload_n 1, 1, 0, 0, 0, .null) := by decide +kernel
theorem f202_6 : am_tab 202 6 = some (.iconst 1, 1, 0, 0, 0, .null) := by decide +kernel
theorem f202_7 : am_tab 202 7 = some (.bipush 47, 2, 0, 0, 0, .null) := by decide +kernel
theorem f202_9 : am_tab 202 9 = some (.invokestatic 54, 3, 145, 3, 5097, .int 2) := by decide +kernel
theorem f202_12 : am_tab 202 12 = some (.ifCond .ne 9, 3, 21, 0, 0, .null) := by decide +kernel
theorem f202_15 : am_tab 202 15 = some (.aload_n 0, 1, 0, 0, 0, .null) := by decide +kernel
theorem f202_16 : am_tab 202 16 = some (.iconst 1, 1, 0, 0, 0, .null) := by decide +kernel
theorem f202_17 : am_tab 202 17 = some (.invokevirtual 150, 3, 144, 2, 5100, .int 0) := by decide +kernel
theorem f202_20 : am_tab 202 20 = some (.ireturn, 1, 0, 0, 0, .null) := by decide +kernel
theorem f202_21 : am_tab 202 21 = some (.aload_n 0, 1, 0, 0, 0, .null) := by decide +kernel
theorem f202_22 : am_tab 202 22 = some (.iload_n 1, 1, 0, 0, 0, .null) := by decide +kernel
theorem f202_23 : am_tab 202 23 = some (.iload_n 2, 1, 0, 0, 0, .null) := by decide +kernel
theorem f202_24 : am_tab 202 24 = some (.invokevirtual 77, 3, 161, 3, 5162, .int 0) := by decide +kernel
theorem f202_27 : am_tab 202 27 = some (.ifCond .ne 9, 3, 36, 0, 0, .null) := by decide +kernel
theorem f202_30 : am_tab 202 30 = some (.aload_n 0, 1, 0, 0, 0, .null) := by decide +kernel
theorem f202_31 : am_tab 202 31 = some (.iconst 2, 1, 0, 0, 0, .null) := by decide +kernel
theorem f202_32 : am_tab 202 32 = some (.invokevirtual 150, 3, 144, 2, 5100, .int 0) := by decide +kernel
theorem f202_35 : am_tab 202 35 = some (.ireturn, 1, 0, 0, 0, .null) := by decide +kernel
theorem f202_36 : am_tab 202 36 = some (.aload_n 0, 1, 0, 0, 0, .null) := by decide +kernel
theorem f202_37 : am_tab 202 37 = some (.invokevirtual 220, 3, 148, 1, 6059, .int 0) := by decide +kernel
theorem f202_40 : am_tab 202 40 = some (.aload_n 0, 1, 0, 0, 0, .null) := by decide +kernel
theorem f202_41 : am_tab 202 41 = some (.iload_n 1, 1, 0, 0, 0, .null) := by decide +kernel
theorem f202_42 : am_tab 202 42 = some (.iload_n 2, 1, 0, 0, 0, .null) := by decide +kernel
theorem f202_43 : am_tab 202 43 = some (.invokevirtual 193, 3, 162, 3, 5158, .int 0) := by decide +kernel
theorem f202_46 : am_tab 202 46 = some (.istore_n 3, 1, 0, 0, 0, .null) := by decide +kernel
theorem f202_47 : am_tab 202 47 = some (.iload_n 3, 1, 0, 0, 0, .null) := by decide +kernel
theorem f202_48 : am_tab 202 48 = some (.ifCond .eq 10, 3, 58, 0, 0, .null) := by decide +kernel
theorem f202_51 : am_tab 202 51 = some (.aload_n 0, 1, 0, 0, 0, .null) := by decide +kernel
theorem f202_52 : am_tab 202 52 = some (.invokevirtual 61, 3, 151, 1, 5166, .int 0) := by decide +kernel
theorem f202_55 : am_tab 202 55 = some (.goto 4, 3, 59, 0, 0, .null) := by decide +kernel
theorem f202_58 : am_tab 202 58 = some (.iconst 0, 1, 0, 0, 0, .null) := by decide +kernel
theorem f202_59 : am_tab 202 59 = some (.ireturn, 1, 0, 0, 0, .null) := by decide +kernel
theorem f203_0 : am_tab 203 0 = some (.aload_n 0, 1, 0, 0, 0, .null) := by decide +kernel
theorem f203_1 : am_tab 203 1 = some (.iconst 0, 1, 0, 0, 0, .null) := by decide +kernel
theorem f203_2 : am_tab 203 2 = some (.putfield 50, 3, 10, 6, 5034, .null) := by decide +kernel
theorem f203_5 : am_tab 203 5 = some (.iload_n 1, 1, 0, 0, 0, .null) := by decide +kernel
theorem f203_6 : am_tab 203 6 = some (.iconst 1, 1, 0, 0, 0, .null) := by decide +kernel
theorem f203_7 : am_tab 203 7 = some (.bipush 11, 2, 0, 0, 0, .null) := by decide +kernel
theorem f203_9 : am_tab 203 9 = some (.invokestatic 54, 3, 145, 3, 5097, .int 2) := by decide +kernel
theorem f203_12 : am_tab 203 12 = some (.ifCond .ne 9, 3, 21, 0, 0, .null) := by decide +kernel
theorem f203_15 : am_tab 203 15 = some (.aload_n 0, 1, 0, 0, 0, .null) := by decide +kernel
theorem f203_16 : am_tab 203 16 = some (.iconst 1, 1, 0, 0, 0, .null) := by decide +kernel
theorem f203_17 : am_tab 203 17 = some (.invokevirtual 150, 3, 144, 2, 5100, .int 0) := by decide +kernel
theorem f203_20 : am_tab 203 20 = some (.ireturn, 1, 0, 0, 0, .null) := by decide +kernel
theorem f203_21 : am_tab 203 21 = some (.aload_n 0, 1, 0, 0, 0, .null) := by decide +kernel
theorem f203_22 : am_tab 203 22 = some (.invokevirtual 220, 3, 148, 1, 6059, .int 0) := by decide +kernel
theorem f203_25 : am_tab 203 25 = some (.aload_n 0, 1, 0, 0, 0, .null) := by decide +kernel
theorem f203_26 : am_tab 203 26 = some (.iload_n 1, 1, 0, 0, 0, .null) := by decide +kernel
theorem f203_27 : am_tab 203 27 = some (.invokevirtual 199, 3, 170, 2, 5182, .int 0) := by decide +kernel
theorem f203_30 : am_tab 203 30 = some (.istore_n 2, 1, 0, 0, 0, .null) := by decide +kernel
theorem f203_31 : am_tab 203 31 = some (.iload_n 2, 1, 0, 0, 0, .null) := by decide +kernel
theorem f203_32 : am_tab 203 32 = some (.ifCond .eq 10, 3, 42, 0, 0, .null) := by decide +kernel
theorem f203_35 : am_tab 203 35 = some (.aload_n 0, 1, 0, 0, 0, .null) := by decide +kernel
theorem f203_36 : am_tab 203 36 = some (.invokevirtual 61, 3, 151, 1, 5166, .int 0) := by decide +kernel
theorem f203_39 : am_tab 203 39 = some (.goto 4, 3, 43, 0, 0, .null) := by decide +kernel
theorem f203_42 : am_tab 203 42 = some (.iconst 0, 1, 0, 0, 0, .null) := by decide +kernel
theorem f203_43 : am_tab 203 43 = some (.ireturn, 1, 0, 0, 0, .null) := by decide +kernel
theorem f204_0 : am_tab 204 0 = some (.aload_n 0, 1, 0, 0, 0, .null) := by decide +kernel
theorem f204_1 : am_tab 204 1 = some (.iconst 0, 1, 0, 0, 0, .null) := by decide +kernel
theorem f204_2 : am_tab 204 2 = some (.putfield 50, 3, 10, 6, 5034, .null) := by decide +kernel
theorem f204_5 : am_tab 204 5 = some (.aload_n 0, 1, 0, 0, 0, .null) := by decide +kernel
theorem f204_6 : am_tab 204 6 = some (.iload_n 1, 1, 0, 0, 0, .null) := by decide +kernel
theorem f204_7 : am_tab 204 7 = some (.invokevirtual 84, 3, 152, 2, 5178, .int 0) := by decide +kernel
theorem f204_10 : am_tab 204 10 = some (.ifCond .ne 9, 3, 19, 0, 0, .null) := by decide +kernel
theorem f204_13 : am_tab 204 13 = some (.aload_n 0, 1, 0, 0, 0, .null) := by decide +kernel
theorem f204_14 : am_tab 204 14 = some (.iconst 1, 1, 0, 0, 0, .null) := by decide +kernel
theorem f204_15 : am_tab 204 15 = some (.invokevirtual 150, 3, 144, 2, 5100, .int 0) := by decide +kernel
theorem f204_18 : am_tab 204 18 = some (.ireturn, 1, 0, 0, 0, .null) := by decide +kernel
theorem f204_19 : am_tab 204 19 = some (.iload_n 2, 1, 0, 0, 0, .null) := by decide +kernel
theorem f204_20 : am_tab 204 20 = some (.bipush (-2), 2, 0, 0, 0, .null) := by decide +kernel
theorem f204_22 : am_tab 204 22 = some (.iconst 2, 1, 0, 0, 0, .null) := by decide +kernel
theorem f204_23 : am_tab 204 23 = some (.invokestatic 54, 3, 145, 3, 5097, .int 2) := by decide +kernel
theorem f204_26 : am_tab 204 26 = some (.ifCond .ne 9, 3, 35, 0, 0, .null) := by decide +kernel
theorem f204_29 : am_tab 204 29 = some (.aload_n 0, 1, 0, 0, 0, .null) := by decide +kernel
theorem f204_30 : am_tab 204 30 = some (.iconst 2, 1, 0, 0, 0, .null) := by decide +kernel
theorem f204_31 : am_tab 204 31 = some (.invokevirtual 150, 3, 144, 2, 5100, .int 0) := by decide +kernel
theorem f204_34 : am_tab 204 34 = some (.ireturn, 1, 0, 0, 0, .null) := by decide +kernel
theorem f204_35 : am_tab 204 35 = some (.aload_n 0, 1, 0, 0, 0, .null) := by decide +kernel
theorem f204_36 : am_tab 204 36 = some (.invokevirtual 220, 3, 148, 1, 6059, .int 0) := by decide +kernel
theorem f204_39 : am_tab 204 39 = some (.aload_n 0, 1, 0, 0, 0, .null) := by decide +kernel
theorem f204_40 : am_tab 204 40 = some (.getfield 7, 3, 10, 0, 5028, .null) := by decide +kernel
theorem f204_43 : am_tab 204 43 = some (.sipush 205, 3, 0, 0, 0, .null) := by decide +kernel
theorem f204_46 : am_tab 204 46 = some (.iload_n 1, 1, 0, 0, 0, .null) := by decide +kernel
theorem f204_47 : am_tab 204 47 = some (.iadd, 1, 0, 0, 0, .null) := by decide +kernel
theorem f204_48 : am_tab 204 48 = some (.iaload, 1, 0, 0, 0, .null) := by decide +kernel
theorem f204_49 : am_tab 204 49 = some (.istore_n 3, 1, 0, 0, 0, .null) := by decide +kernel
theorem f204_50 : am_tab 204 50 = some (.aload_n 0, 1, 0, 0, 0, .null) := by decide +kernel
theorem f204_51 : am_tab 204 51 = some (.getfield 7, 3, 10, 0, 5028, .null) := by decide +kernel
theorem f204_54 : am_tab 204 54 = some (.sipush 205, 3, 0, 0, 0, .null) := by decide +kernel
theorem f204_57 : am_tab 204 57 = some (.iload_n 1, 1, 0, 0, 0, .null) := by decide +kernel
theorem f204_58 : am_tab 204 58 = some (.iadd, 1, 0, 0, 0, .null) := by decide +kernel
theorem f204_59 : am_tab 204 59 = some (.iload_n 2, 1, 0, 0, 0, .null) := by decide +kernel
theorem f204_60 : am_tab 204 60 = some (.iastore, 1, 0, 0, 0, .null) := by decide +kernel
theorem f204_61 : am_tab 204 61 = some (.iload_n 3, 1, 0, 0, 0, .null) := by decide +kernel
theorem f204_62 : am_tab 204 62 = some (.ireturn, 1, 0, 0, 0, .null) := by decide +kernel
theorem f205_0 : am_tab 205 0 = some (.aload_n 0, 1, 0, 0, 0, .null) := by decide +kernel
theorem f205_1 : am_tab 205 1 = some (.iconst 0, 1, 0, 0, 0, .null) := by decide +kernel
theorem f205_2 : am_tab 205 2 = some (.putfield 50, 3, 10, 6, 5034, .null) := by decide +kernel
theorem f205_5 : am_tab 205 5 = some (.aload_n 0, 1, 0, 0, 0, .null) := by decide +kernel
theorem f205_6 : am_tab 205 6 = some (.invokevirtual 220, 3, 148, 1, 6059, .int 0) := by decide +kernel
theorem f205_9 : am_tab 205 9 = some (.aload_n 0, 1, 0, 0, 0, .null) := by decide +kernel
theorem f205_10 : am_tab 205 10 = some (.invokevirtual 202, 3, 164, 1, 5198, .int 0) := by decide +kernel
theorem f205_13 : am_tab 205 13 = some (.aload_n 0, 1, 0, 0, 0, .null) := by decide +kernel
theorem f205_14 : am_tab 205 14 = some (.sipush 193, 3, 0, 0, 0, .null) := by decide +kernel
theorem f205_17 : am_tab 205 17 = some (.iconst 0, 1, 0, 0, 0, .null) := by decide +kernel
theorem f205_18 : am_tab 205 18 = some (.aload_n 0, 1, 0, 0, 0, .null) := by decide +kernel
theorem f205_19 : am_tab 205 19 = some (.invokevirtual 61, 3, 151, 1, 5166, .int 0) := by decide +kernel
theorem f205_22 : am_tab 205 22 = some (.invokevirtual 69, 3, 155, 4, 5230, .int 0) := by decide +kernel
theorem f205_25 : am_tab 205 25 = some (.ireturn, 1, 0, 0, 0, .null) := by decide +kernel
theorem f206_0 : am_tab 206 0 = some (.aload_n 0, 1, 0, 0, 0, .null) := by decide +kernel
theorem f206_1 : am_tab 206 1 = some (.iconst 0, 1, 0, 0, 0, .null) := by decide +kernel
theorem f206_2 : am_tab 206 2 = some (.putfield 50, 3, 10, 6, 5034, .null) := by decide +kernel
theorem f206_5 : am_tab 206 5 = some (.iload_n 1, 1, 0, 0, 0, .null) := by decide +kernel
theorem f206_6 : am_tab 206 6 = some (.iconst 0, 1, 0, 0, 0, .null) := by decide +kernel
theorem f206_7 : am_tab 206 7 = some (.iconst 2, 1, 0, 0, 0, .null) := by decide +kernel
theorem f206_8 : am_tab 206 8 = some (.invokestatic 54, 3, 145, 3, 5097, .int 2) := by decide +kernel
theorem f206_11 : am_tab 206 11 = some (.ifCond .ne 9, 3, 20, 0, 0, .null) := by decide +kernel
theorem f206_14 : am_tab 206 14 = some (.aload_n 0, 1, 0, 0, 0, .null) := by decide +kernel
theorem f206_15 : am_tab 206 15 = some (.iconst 1, 1, 0, 0, 0, .null) := by decide +kernel
theorem f206_16 : am_tab 206 16 = some (.invokevirtual 150, 3, 144, 2, 5100, .int 0) := by decide +kernel
theorem f206_19 : am_tab 206 19 = some (.ireturn, 1, 0, 0, 0, .null) := by decide +kernel
theorem f206_20 : am_tab 206 20 = some (.aload_n 0, 1, 0, 0, 0, .null) := by decide +kernel
theorem f206_21 : am_tab 206 21 = some (.invokevirtual 94, 3, 171, 1, 5218, .int 0) := by decide +kernel
theorem f206_24 : am_tab 206 24 = some (.ifCond .ne 9, 3, 33, 0, 0, .null) := by decide +kernel
theorem f206_27 : am_tab 206 27 = some (.aload_n 0, 1, 0, 0, 0, .null) := by decide +kernel
theorem f206_28 : am_tab 206 28 = some (.iconst 2, 1, 0, 0, 0, .null) := by decide +kernel
theorem f206_29 : am_tab 206 29 = some (.invokevirtual 150, 3, 144, 2, 5100, .int 0) := by decide +kernel
theorem f206_32 : am_tab 206 32 = some (.ireturn, 1, 0, 0, 0, .null) := by decide +kernel
theorem f206_33 : am_tab 206 33 = some (.aload_n 0, 1, 0, 0, 0, .null) := by decide +kernel
theorem f206_34 : am_tab 206 34 = some (.invokevirtual 220, 3, 148, 1, 6059, .int 0) := by decide +kernel
theorem f206_37 : am_tab 206 37 = some (.aload_n 0, 1, 0, 0, 0, .null) := by decide +kernel
theorem f206_38 : am_tab 206 38 = some (.getfield 7, 3, 10, 0, 5028, .null) := by decide +kernel
theorem f206_41 : am_tab 206 41 = some (.sipush 217, 3, 0, 0, 0, .null) := by decide +kernel
theorem f206_44 : am_tab 206 44 = some (.iaload, 1, 0, 0, 0, .null) := by decide +kernel
theorem f206_45 : am_tab 206 45 = some (.istore_n 2, 1, 0, 0, 0, .null) := by decide +kernel
theorem f206_46 : am_tab 206 46 = some (.aload_n 0, 1, 0, 0, 0, .null) := by decide +kernel
theorem f206_47 : am_tab 206 47 = some (.iload_n 1, 1, 0, 0, 0, .null) := by decide +kernel
theorem f206_48 : am_tab 206 48 = some (.invokevirtual 205, 3, 166, 2, 5214, .int 0) := by decide +kernel
theorem f206_51 : am_tab 206 51 = some (.istore_n 3, 1, 0, 0, 0, .null) := by decide +kernel
theorem f206_52 : am_tab 206 52 = some (.iload_n 3, 1, 0, 0, 0, .null) := by decide +kernel
theorem f206_53 : am_tab 206 53 = some (.ifCond .eq 16, 3, 69, 0, 0, .null) := by decide +kernel
theorem f206_56 : am_tab 206 56 = some (.aload_n 0, 1, 0, 0, 0, .null) := by decide +kernel
theorem f206_57 : am_tab 206 57 = some (.getfield 7, 3, 10, 0, 5028, .null) := by decide +kernel
theorem f206_60 : am_tab 206 60 = some (.sipush 217, 3, 0, 0, 0, .null) := by decide +kernel
theorem f206_63 : am_tab 206 63 = some (.iaload, 1, 0, 0, 0, .null) := by decide +kernel
theorem f206_64 : am_tab 206 64 = some (.iload_n 2, 1, 0, 0, 0, .null) := by decide +kernel
theorem f206_65 : am_tab 206 65 = some (.isub, 1, 0, 0, 0, .null) := by decide +kernel
theorem f206_66 : am_tab 206 66 = some (.goto 4, 3, 70, 0, 0, .null) := by decide +kernel
theorem f206_69 : am_tab 206 69 = some (.iconst 0, 1, 0, 0, 0, .null) := by decide +kernel
theorem f206_70 : am_tab 206 70 = some (.ireturn, 1, 0, 0, 0, .null) := by decide +kernel
theorem f207_0 : am_tab 207 0 = some (.aload_n 0, 1, 0, 0, 0, .null) := by decide +kernel
theorem f207_1 : am_tab 207 1 = some (.iconst 0, 1, 0, 0, 0, .null) := by decide +kernel
theorem f207_2 : am_tab 207 2 = some (.putfield 50, 3, 10, 6, 5034, .null) := by decide +kernel
theorem f207_5 : am_tab 207 5 = some (.iload_n 1, 1, 0, 0, 0, .null) := by decide +kernel
theorem f207_6 : am_tab 207 6 = some (.iconst 0, 1, 0, 0, 0, .null) := by decide +kernel
theorem f207_7 : am_tab 207 7 = some (.iconst 1, 1, 0, 0, 0, .null) := by decide +kernel
theorem f207_8 : am_tab 207 8 = some (.invokestatic 54, 3, 145, 3, 5097, .int 2) := by decide +kernel
theorem f207_11 : am_tab 207 11 = some (.ifCond .ne 9, 3, 20, 0, 0, .null) := by decide +kernel
theorem f207_14 : am_tab 207 14 = some (.aload_n 0, 1, 0, 0, 0, .null) := by decide +kernel
theorem f207_15 : am_tab 207 15 = some (.iconst 1, 1, 0, 0, 0, .null) := by decide +kernel
theorem f207_16 : am_tab 207 16 = some (.invokevirtual 150, 3, 144, 2, 5100, .int 0) := by decide +kernel
theorem f207_19 : am_tab 207 19 = some (.ireturn, 1, 0, 0, 0, .null) := by decide +kernel
theorem f207_20 : am_tab 207 20 = some (.aload_n 0, 1, 0, 0, 0, .null) := by decide +kernel
theorem f207_21 : am_tab 207 21 = some (.invokevirtual 220, 3, 148, 1, 6059, .int 0) := by decide +kernel
theorem f207_24 : am_tab 207 24 = some (.aload_n 0, 1, 0, 0, 0, .null) := by decide +kernel
theorem f207_25 : am_tab 207 25 = some (.getfield 7, 3, 10, 0, 5028, .null) := by decide +kernel
theorem f207_28 : am_tab 207 28 = some (.sipush 269, 3, 0, 0, 0, .null) := by decide +kernel
theorem f207_31 : am_tab 207 31 = some (.iaload, 1, 0, 0, 0, .null) := by decide +kernel
theorem f207_32 : am_tab 207 32 = some (.istore_n 2, 1, 0, 0, 0, .null) := by decide +kernel
theorem f207_33 : am_tab 207 33 = some (.aload_n 0, 1, 0, 0, 0, .null) := by decide +kernel
theorem f207_34 : am_tab 207 34 = some (.getfield 7, 3, 10, 0, 5028, .null) := by decide +kernel
theorem f207_37 : am_tab 207 37 = some (.sipush 269, 3, 0, 0, 0, .null) := by decide +kernel
theorem f207_40 : am_tab 207 40 = some (.iload_n 1, 1, 0, 0, 0, .null) := by decide +kernel
theorem f207_41 : am_tab 207 41 = some (.iastore, 1, 0, 0, 0, .null) := by decide +kernel
theorem f207_42 : am_tab 207 42 = some (.iload_n 2, 1, 0, 0, 0, .null) := by decide +kernel
theorem f207_43 : am_tab 207 43 = some (.ireturn, 1, 0, 0, 0, .null) := by decide +kernel
theorem f208_0 : am_tab 208 0 = some (.aload_n 0, 1, 0, 0, 0, .null) := by decide +kernel
theorem f208_1 : am_tab 208 1 = some (.iconst 0, 1, 0, 0, 0, .null) := by decide +kernel
theorem f208_2 : am_tab 208 2 = some (.putfield 50, 3, 10, 6, 5034, .null) := by decide +kernel
theorem f208_5 : am_tab 208 5 = some (.aload_n 0, 1, 0, 0, 0, .null) := by decide +kernel
theorem f208_6 : am_tab 208 6 = some (.getfield 58, 3, 10, 2, 5030, .null) := by decide +kernel
theorem f208_9 : am_tab 208 9 = some (.ifCond .ne 9, 3, 18, 0, 0, .null) := by decide +kernel
theorem f208_12 : am_tab 208 12 = some (.aload_n 0, 1, 0, 0, 0, .null) := by decide +kernel
theorem f208_13 : am_tab 208 13 = some (.iconst 1, 1, 0, 0, 0, .null) := by decide +kernel
theorem f208_14 : am_tab 208 14 = some (.invokevirtual 150, 3, 144, 2, 5100, .int 0) := by decide +kernel
theorem f208_17 : am_tab 208 17 = some (.ireturn, 1, 0, 0, 0, .null) := by decide +kernel
theorem f208_18 : am_tab 208 18 = some (.aload_n 0, 1, 0, 0, 0, .null) := by decide +kernel
theorem f208_19 : am_tab 208 19 = some (.dup, 1, 0, 0, 0, .null) := by decide +kernel
theorem f208_20 : am_tab 208 20 = some (.getfield 58, 3, 10, 2, 5030, .null) := by decide +kernel
theorem f208_23 : am_tab 208 23 = some (.iconst 1, 1, 0, 0, 0, .null) := by decide +kernel
theorem f208_24 : am_tab 208 24 = some (.isub, 1, 0, 0, 0, .null) := by decide +kernel
theorem f208_25 : am_tab 208 25 = some (.putfield 58, 3, 10, 2, 5030, .null) := by decide +kernel
theorem f208_28 : am_tab 208 28 = some (.iconst 0, 1, 0, 0, 0, .null) := by decide +kernel
theorem f208_29 : am_tab 208 29 = some (.istore_n 1, 1, 0, 0, 0, .null) := by decide +kernel
theorem f208_30 : am_tab 208 30 = some (.iload_n 1, 1, 0, 0, 0, .null) := by decide +kernel
theorem f208_31 : am_tab 208 31 = some (.sipush 270, 3, 0, 0, 0, .null) := by decide +kernel
theorem f208_34 : am_tab 208 34 = some (.if_icmp .ge 30, 3, 64, 0, 0, .null) := by decide +kernel
theorem f208_37 : am_tab 208 37 = some (.aload_n 0, 1, 0, 0, 0, .null) := by decide +kernel
theorem f208_38 : am_tab 208 38 = some (.getfield 7, 3, 10, 0, 5028, .null) := by decide +kernel
theorem f208_41 : am_tab 208 41 = some (.iload_n 1, 1, 0, 0, 0, .null) := by decide +kernel
theorem f208_42 : am_tab 208 42 = some (.aload_n 0, 1, 0, 0, 0, .null) := by decide +kernel
theorem f208_43 : am_tab 208 43 = some (.getfield 13, 3, 10, 1, 5029, .null) := by decide +kernel
theorem f208_46 : am_tab 208 46 = some (.sipush 270, 3, 0, 0, 0, .null) := by decide +kernel
theorem f208_49 : am_tab 208 49 = some (.aload_n 0, 1, 0, 0, 0, .null) := by decide +kernel
theorem f208_50 : am_tab 208 50 = some (.getfield 58, 3, 10, 2, 5030, .null) := by decide +kernel
theorem f208_53 : am_tab 208 53 = some (.imul, 1, 0, 0, 0, .null) := by decide +kernel
theorem f208_54 : am_tab 208 54 = some (.iload_n 1, 1, 0, 0, 0, .null) := by decide +kernel
theorem f208_55 : am_tab 208 55 = some (.iadd, 1, 0, 0, 0, .null) := by decide +kernel
theorem f208_56 : am_tab 208 56 = some (.iaload, 1, 0, 0, 0, .null) := by decide +kernel
theorem f208_57 : am_tab 208 57 = some (.iastore, 1, 0, 0, 0, .null) := by decide +kernel
theorem f208_58 : am_tab 208 58 = some (.iinc 1 1, 3, 0, 0, 0, .null) := by decide +kernel
theorem f208_61 : am_tab 208 61 = some (.goto (-31), 3, 30, 0, 0, .null) := by decide +kernel
theorem f208_64 : am_tab 208 64 = some (.aload_n 0, 1, 0, 0, 0, .null) := by decide +kernel
theorem f208_65 : am_tab 208 65 = some (.getfield 58, 3, 10, 2, 5030, .null) := by decide +kernel
theorem f208_68 : am_tab 208 68 = some (.ireturn, 1, 0, 0, 0, .null) := by decide +kernel
theorem f209_0 : am_tab 209 0 = some (.aload_n 0, 1, 0, 0, 0, .null) := by decide +kernel
theorem f209_1 : am_tab 209 1 = some (.iload_n 1, 1, 0, 0, 0, .null) := by decide +kernel
theorem f209_2 : am_tab 209 2 = some (.invokevirtual 98, 3, 178, 2, 5222, .int 0) := by decide +kernel
theorem f209_5 : am_tab 209 5 = some (.iload_n 2, 1, 0, 0, 0, .null) := by decide +kernel
theorem f209_6 : am_tab 209 6 = some (.ifCond .ne 10, 3, 16, 0, 0, .null) := by decide +kernel
theorem f209_9 : am_tab 209 9 = some (.aload_n 0, 1, 0, 0, 0, .null) := by decide +kernel
theorem f209_10 : am_tab 209 10 = some (.getfield 102, 3, 10, 7, 5035, .null) := by decide +kernel
theorem f209_13 : am_tab 209 13 = some (.goto 31, 3, 44, 0, 0, .null) := by decide +kernel
theorem f209_16 : am_tab 209 16 = some (.iload_n 2, 1, 0, 0, 0, .null) := by decide +kernel
theorem f209_17 : am_tab 209 17 = some (.iconst 1, 1, 0, 0, 0, .null) := by decide +kernel
theorem f209_18 : am_tab 209 18 = some (.if_icmp .ne 10, 3, 28, 0, 0, .null) := by decide +kernel
theorem f209_21 : am_tab 209 21 = some (.aload_n 0, 1, 0, 0, 0, .null) := by decide +kernel
theorem f209_22 : am_tab 209 22 = some (.invokevirtual 105, 3, 179, 1, 6019, .int 0) := by decide +kernel
theorem f209_25 : am_tab 209 25 = some (.goto 19, 3, 44, 0, 0, .null) := by decide +kernel
theorem f209_28 : am_tab 209 28 = some (.iload_n 2, 1, 0, 0, 0, .null) := by decide +kernel
theorem f209_29 : am_tab 209 29 = some (.iconst 2, 1, 0, 0, 0, .null) := by decide +kernel
theorem f209_30 : am_tab 209 30 = some (.if_icmp .ne 10, 3, 40, 0, 0, .null) := by decide +kernel
theorem f209_33 : am_tab 209 33 = some (.aload_n 0, 1, 0, 0, 0, .null) := by decide +kernel
theorem f209_34 : am_tab 209 34 = some (.invokevirtual 108, 3, 180, 1, 6023, .int 0) := by decide +kernel
theorem f209_37 : am_tab 209 37 = some (.goto 7, 3, 44, 0, 0, .null) := by decide +kernel
theorem f209_40 : am_tab 209 40 = some (.aload_n 0, 1, 0, 0, 0, .null) := by decide +kernel
theorem f209_41 : am_tab 209 41 = some (.invokevirtual 111, 3, 181, 1, 6027, .int 0) := by decide +kernel
theorem f209_44 : am_tab 209 44 = some (.ireturn, 1, 0, 0, 0, .null) := by decide +kernel
theorem f210_0 : am_tab 210 0 = some (.aload_n 0, 1, 0, 0, 0, .null) := by decide +kernel
theorem f210_1 : am_tab 210 1 = some (.iconst 0, 1, 0, 0, 0, .null) := by decide +kernel
theorem f210_2 : am_tab 210 2 = some (.putfield 50, 3, 10, 6, 5034, .null) := by decide +kernel
theorem f210_5 : am_tab 210 5 = some (.iload_n 1, 1, 0, 0, 0, .null) := by decide +kernel
theorem f210_6 : am_tab 210 6 = some (.iconst 0, 1, 0, 0, 0, .null) := by decide +kernel
theorem f210_7 : am_tab 210 7 = some (.iconst 2, 1, 0, 0, 0, .null) := by decide +kernel
theorem f210_8 : am_tab 210 8 = some (.invokestatic 54, 3, 145, 3, 5097, .int 2) := by decide +kernel
theorem f210_11 : am_tab 210 11 = some (.ifCond .eq 12, 3, 23, 0, 0, .null) := by decide +kernel
theorem f210_14 : am_tab 210 14 = some (.iload_n 2, 1, 0, 0, 0, .null) := by decide +kernel
theorem f210_15 : am_tab 210 15 = some (.iconst 0, 1, 0, 0, 0, .null) := by decide +kernel
theorem f210_16 : am_tab 210 16 = some (.iconst 3, 1, 0, 0, 0, .null) := by decide +kernel
theorem f210_17 : am_tab 210 17 = some (.invokestatic 54, 3, 145, 3, 5097, .int 2) := by decide +kernel
theorem f210_20 : am_tab 210 20 = some (.ifCond .ne 9, 3, 29, 0, 0, .null) := by decide +kernel
theorem f210_23 : am_tab 210 23 = some (.aload_n 0, 1, 0, 0, 0, .null) := by decide +kernel
theorem f210_24 : am_tab 210 24 = some (.iconst 1, 1, 0, 0, 0, .null) := by decide +kernel
theorem f210_25 : am_tab 210 25 = some (.invokevirtual 150, 3, 144, 2, 5100, .int 0) := by decide +kernel
theorem f210_28 : am_tab 210 28 = some (.ireturn, 1, 0, 0, 0, .null) := by decide +kernel
theorem f210_29 : am_tab 210 29 = some (.aload_n 0, 1, 0, 0, 0, .null) := by decide +kernel
theorem f210_30 : am_tab 210 30 = some (.invokevirtual 94, 3, 171, 1, 5218, .int 0) := by decide +kernel
theorem f210_33 : am_tab 210 33 = some (.ifCond .eq 12, 3, 45, 0, 0, .null) := by decide +kernel
theorem f210_36 : am_tab 210 36 = some (.aload_n 0, 1, 0, 0, 0, .null) := by decide +kernel
theorem f210_37 : am_tab 210 37 = some (.iload_n 1, 1, 0, 0, 0, .null) := by decide +kernel
theorem f210_38 : am_tab 210 38 = some (.iload_n 2, 1, 0, 0, 0, .null) := by decide +kernel
theorem f210_39 : am_tab 210 39 = some (.invokevirtual 223, 3, 209, 3, 6099, .int 0) := by decide +kernel
theorem f210_42 : am_tab 210 42 = some (.goto 8, 3, 50, 0, 0, .null) := by decide +kernel
theorem f210_45 : am_tab 210 45 = some (.aload_n 0, 1, 0, 0, 0, .null) := by decide +kernel
theorem f210_46 : am_tab 210 46 = some (.iconst 2, 1, 0, 0, 0, .null) := by decide +kernel
theorem f210_47 : am_tab 210 47 = some (.invokevirtual 150, 3, 144, 2, 5100, .int 0) := by decide +kernel
theorem f210_50 : am_tab 210 50 = some (.ireturn, 1, 0, 0, 0, .null) := by decide +kernel
theorem f211_0 : am_tab 211 0 = some (.aload_n 0, 1, 0, 0, 0, .null) := by decide +kernel
theorem f211_1 : am_tab 211 1 = some (.iconst 0, 1, 0, 0, 0, .null) := by decide +kernel
theorem f211_2 : am_tab 211 2 = some (.putfield 50, 3, 10, 6, 5034, .null) := by decide +kernel
theorem f211_5 : am_tab 211 5 = some (.aload_n 0, 1, 0, 0, 0, .null) := by decide +kernel
theorem f211_6 : am_tab 211 6 = some (.invokevirtual 94, 3, 171, 1, 5218, .int 0) := by decide +kernel
theorem f211_9 : am_tab 211 9 = some (.ifCond .ne 5, 3, 14, 0, 0, .null) := by decide +kernel
theorem f211_12 : am_tab 211 12 = some (.iconst (-1), 1, 0, 0, 0, .null) := by decide +kernel
theorem f211_13 : am_tab 211 13 = some (.ireturn, 1, 0, 0, 0, .null) := by decide +kernel
theorem f211_14 : am_tab 211 14 = some (.iconst 0, 1, 0, 0, 0, .null) := by decide +kernel
theorem f211_15 : am_tab 211 15 = some (.istore_n 1, 1, 0, 0, 0, .null) := by decide +kernel
theorem f211_16 : am_tab 211 16 = some (.iconst 1, 1, 0, 0, 0, .null) := by decide +kernel
theorem f211_17 : am_tab 211 17 = some (.istore_n 2, 1, 0, 0, 0, .null) := by decide +kernel
theorem f211_18 : am_tab 211 18 = some (.iload_n 2, 1, 0, 0, 0, .null) := by decide +kernel
theorem f211_19 : am_tab 211 19 = some (.iconst 3, 1, 0, 0, 0, .null) := by decide +kernel
theorem f211_20 : am_tab 211 20 = some (.if_icmp .ge 30, 3, 50, 0, 0, .null) := by decide +kernel
theorem f211_23 : am_tab 211 23 = some (.aload_n 0, 1, 0, 0, 0, .null) := by decide +kernel
theorem f211_24 : am_tab 211 24 = some (.iload_n 2, 1, 0, 0, 0, .null) := by decide +kernel
theorem f211_25 : am_tab 211 25 = some (.iconst 0, 1, 0, 0, 0, .null) := by decide +kernel
theorem f211_26 : am_tab 211 26 = some (.invokevirtual 223, 3, 209, 3, 6099, .int 0) := by decide +kernel
theorem f211_29 : am_tab 211 29 = some (.aload_n 0, 1, 0, 0, 0, .null) := by decide +kernel
theorem f211_30 : am_tab 211 30 = some (.iload_n 1, 1, 0, 0, 0, .null) := by decide +kernel
theorem f211_31 : am_tab 211 31 = some (.iconst 0, 1, 0, 0, 0, .null) := by decide +kernel
theorem f211_32 : am_tab 211 32 = some (.invokevirtual 223, 3, 209, 3, 6099, .int 0) := by decide +kernel
theorem f211_35 : am_tab 211 35 = some (.if_icmp .ge 7, 3, 42, 0, 0, .null) := by decide +kernel
theorem f211_38 : am_tab 211 38 = some (.iload_n 2, 1, 0, 0, 0, .null) := by decide +kernel
theorem f211_39 : am_tab 211 39 = some (.goto 4, 3, 43, 0, 0, .null) := by decide +kernel
theorem f211_42 : am_tab 211 42 = some (.iload_n 1, 1, 0, 0, 0, .null) := by decide +kernel
theorem f211_43 : am_tab 211 43 = some (.istore_n 1, 1, 0, 0, 0, .null) := by decide +kernel
theorem f211_44 : am_tab 211 44 = some (.iinc 2 1, 3, 0, 0, 0, .null) := by decide +kernel
theorem f211_47 : am_tab 211 47 = some (.goto (-29), 3, 18, 0, 0, .null) := by decide +kernel
theorem f211_50 : am_tab 211 50 = some (.iload_n 1, 1, 0, 0, 0, .null) := by decide +kernel
theorem f211_51 : am_tab 211 51 = some (.ireturn, 1, 0, 0, 0, .null) := by decide +kernel
theorem f212_0 : am_tab 212 0 = some (.iload_n 2, 1, 0, 0, 0, .null) := by decide +kernel
theorem f212_1 : am_tab 212 1 = some (.istore 5, 2, 0, 0, 0, .null) := by decide +kernel
theorem f212_3 : am_tab 212 3 = some (.iload_n 3, 1, 0, 0, 0, .null) := by decide +kernel
theorem f212_4 : am_tab 212 4 = some (.istore 6, 2, 0, 0, 0, .null) := by decide +kernel
theorem f212_6 : am_tab 212 6 = some (.iconst 0, 1, 0, 0, 0, .null) := by decide +kernel
theorem f212_7 : am_tab 212 7 = some (.istore 7, 2, 0, 0, 0, .null) := by decide +kernel
theorem f212_9 : am_tab 212 9 = some (.iload 6, 2, 0, 0, 0, .null) := by decide +kernel
theorem f212_11 : am_tab 212 11 = some (.iload 5, 2, 0, 0, 0, .null) := by decide +kernel
theorem f212_13 : am_tab 212 13 = some (.isub, 1, 0, 0, 0, .null) := by decide +kernel
theorem f212_14 : am_tab 212 14 = some (.iconst 1, 1, 0, 0, 0, .null) := by decide +kernel
theorem f212_15 : am_tab 212 15 = some (.if_icmp .le 51, 3, 66, 0, 0, .null) := by decide +kernel
theorem f212_18 : am_tab 212 18 = some (.aload_n 0, 1, 0, 0, 0, .null) := by decide +kernel
theorem f212_19 : am_tab 212 19 = some (.iload 5, 2, 0, 0, 0, .null) := by decide +kernel
theorem f212_21 : am_tab 212 21 = some (.iload 6, 2, 0, 0, 0, .null) := by decide +kernel
theorem f212_23 : am_tab 212 23 = some (.iload 4, 2, 0, 0, 0, .null) := by decide +kernel
theorem f212_25 : am_tab 212 25 = some (.invokevirtual 136, 3, 174, 4, 6006, .int 0) := by decide +kernel
theorem f212_28 : am_tab 212 28 = some (.istore 8, 2, 0, 0, 0, .null) := by decide +kernel
theorem f212_30 : am_tab 212 30 = some (.iload_n 1, 1, 0, 0, 0, .null) := by decide +kernel
theorem f212_31 : am_tab 212 31 = some (.iload 8, 2, 0, 0, 0, .null) := by decide +kernel
theorem f212_33 : am_tab 212 33 = some (.if_icmp .ge 8, 3, 41, 0, 0, .null) := by decide +kernel
theorem f212_36 : am_tab 212 36 = some (.iload 5, 2, 0, 0, 0, .null) := by decide +kernel
theorem f212_38 : am_tab 212 38 = some (.goto 5, 3, 43, 0, 0, .null) := by decide +kernel
theorem f212_41 : am_tab 212 41 = some (.iload 8, 2, 0, 0, 0, .null) := by decide +kernel
theorem f212_43 : am_tab 212 43 = some (.istore 5, 2, 0, 0, 0, .null) := by decide +kernel
theorem f212_45 : am_tab 212 45 = some (.iload_n 1, 1, 0, 0, 0, .null) := by decide +kernel
theorem f212_46 : am_tab 212 46 = some (.iload 8, 2, 0, 0, 0, .null) := by decide +kernel
theorem f212_48 : am_tab 212 48 = some (.if_icmp .ge 8, 3, 56, 0, 0, .null) := by decide +kernel
theorem f212_51 : am_tab 212 51 = some (.iload 8, 2, 0, 0, 0, .null) := by decide +kernel
theorem f212_53 : am_tab 212 53 = some (.goto 5, 3, 58, 0, 0, .null) := by decide +kernel
theorem f212_56 : am_tab 212 56 = some (.iload 6, 2, 0, 0, 0, .null) := by decide +kernel
theorem f212_58 : am_tab 212 58 = some (.istore 6, 2, 0, 0, 0, .null) := by decide +kernel
theorem f212_60 : am_tab 212 60 = some (.iinc 7 1, 3, 0, 0, 0, .null) := by decide +kernel
theorem f212_63 : am_tab 212 63 = some (.goto (-54), 3, 9, 0, 0, .null) := by decide +kernel
theorem f212_66 : am_tab 212 66 = some (.iload 7, 2, 0, 0, 0, .null) := by decide +kernel
theorem f212_68 : am_tab 212 68 = some (.ireturn, 1, 0, 0, 0, .null) := by decide +kernel
theorem f213_0 : am_tab 213 0 = some (.aload_n 0, 1, 0, 0, 0, .null) := by decide +kernel
theorem f213_1 : am_tab 213 1 = some (.iload_n 1, 1, 0, 0, 0, .null) := by decide +kernel
theorem f213_2 : am_tab 213 2 = some (.invokevirtual 87, 3, 154, 2, 5202, .int 0) := by decide +kernel
theorem f213_5 : am_tab 213 5 = some (.istore 4, 2, 0, 0, 0, .null) := by decide +kernel
theorem f213_7 : am_tab 213 7 = some (.aload_n 0, 1, 0, 0, 0, .null) := by decide +kernel
theorem f213_8 : am_tab 213 8 = some (.iload_n 1, 1, 0, 0, 0, .null) := by decide +kernel
theorem f213_9 : am_tab 213 9 = some (.iconst 1, 1, 0, 0, 0, .null) := by decide +kernel
theorem f213_10 : am_tab 213 10 = some (.iadd, 1, 0, 0, 0, .null) := by decide +kernel
theorem f213_11 : am_tab 213 11 = some (.invokevirtual 87, 3, 154, 2, 5202, .int 0) := by decide +kernel
theorem f213_14 : am_tab 213 14 = some (.istore 5, 2, 0, 0, 0, .null) := by decide +kernel
theorem f213_16 : am_tab 213 16 = some (.iconst 0, 1, 0, 0, 0, .null) := by decide +kernel
theorem f213_17 : am_tab 213 17 = some (.istore 6, 2, 0, 0, 0, .null) := by decide +kernel
theorem f213_19 : am_tab 213 19 = some (.iconst 0, 1, 0, 0, 0, .null) := by decide +kernel
theorem f213_20 : am_tab 213 20 = some (.istore 7, 2, 0, 0, 0, .null) := by decide +kernel
theorem f213_22 : am_tab 213 22 = some (.iload 4, 2, 0, 0, 0, .null) := by decide +kernel
theorem f213_24 : am_tab 213 24 = some (.istore 8, 2, 0, 0, 0, .null) := by decide +kernel
theorem f213_26 : am_tab 213 26 = some (.iload 8, 2, 0, 0, 0, .null) := by decide +kernel
theorem f213_28 : am_tab 213 28 = some (.iload 5, 2, 0, 0, 0, .null) := by decide +kernel
theorem f213_30 : am_tab 213 30 = some (.if_icmp .ge 58, 3, 88, 0, 0, .null) := by decide +kernel
theorem f213_33 : am_tab 213 33 = some (.aload_n 0, 1, 0, 0, 0, .null) := by decide +kernel
theorem f213_34 : am_tab 213 34 = some (.iload 8, 2, 0, 0, 0, .null) := by decide +kernel
theorem f213_36 : am_tab 213 36 = some (.iload 4, 2, 0, 0, 0, .null) := by decide +kernel
theorem f213_38 : am_tab 213 38 = some (.iload 5, 2, 0, 0, 0, .null) := by decide +kernel
theorem f213_40 : am_tab 213 40 = some (.iload_n 2, 1, 0, 0, 0, .null) := by decide +kernel
theorem f213_41 : am_tab 213 41 = some (.invokevirtual 226, 3, 212, 5, 6115, .int 0) := by decide +kernel
theorem f213_44 : am_tab 213 44 = some (.istore 9, 2, 0, 0, 0, .null) := by decide +kernel
theorem f213_46 : am_tab 213 46 = some (.iload 9, 2, 0, 0, 0, .null) := by decide +kernel
theorem f213_48 : am_tab 213 48 = some (.iload 6, 2, 0, 0, 0, .null) := by decide +kernel
theorem f213_50 : am_tab 213 50 = some (.if_icmp .le 8, 3, 58, 0, 0, .null) := by decide +kernel
theorem f213_53 : am_tab 213 53 = some (.iload 9, 2, 0, 0, 0, .null) := by decide +kernel
theorem f213_55 : am_tab 213 55 = some (.goto 5, 3, 60, 0, 0, .null) := by decide +kernel
theorem f213_58 : am_tab 213 58 = some (.iload 6, 2, 0, 0, 0, .null) := by decide +kernel
theorem f213_60 : am_tab 213 60 = some (.istore 6, 2, 0, 0, 0, .null) := by decide +kernel
theorem f213_62 : am_tab 213 62 = some (.iload 7, 2, 0, 0, 0, .null) := by decide +kernel
theorem f213_64 : am_tab 213 64 = some (.iload 9, 2, 0, 0, 0, .null) := by decide +kernel
theorem f213_66 : am_tab 213 66 = some (.aload_n 0, 1, 0, 0, 0, .null) := by decide +kernel
theorem f213_67 : am_tab 213 67 = some (.getfield 7, 3, 10, 0, 5028, .null) := by decide +kernel
theorem f213_70 : am_tab 213 70 = some (.bipush 96, 2, 0, 0, 0, .null) := by decide +kernel
theorem f213_72 : am_tab 213 72 = some (.iload 8, 2, 0, 0, 0, .null) := by decide +kernel
theorem f213_74 : am_tab 213 74 = some (.iadd, 1, 0, 0, 0, .null) := by decide +kernel
theorem f213_75 : am_tab 213 75 = some (.iaload, 1, 0, 0, 0, .null) := by decide +kernel
theorem f213_76 : am_tab 213 76 = some (.iconst 1, 1, 0, 0, 0, .null) := by decide +kernel
theorem f213_77 : am_tab 213 77 = some (.iadd, 1, 0, 0, 0, .null) := by decide +kernel
theorem f213_78 : am_tab 213 78 = some (.imul, 1, 0, 0, 0, .null) := by decide +kernel
theorem f213_79 : am_tab 213 79 = some (.iadd, 1, 0, 0, 0, .null) := by decide +kernel
theorem f213_80 : am_tab 213 80 = some (.istore 7, 2, 0, 0, 0, .null) := by decide +kernel
theorem f213_82 : am_tab 213 82 = some (.iinc 8 1, 3, 0, 0, 0, .null) := by decide +kernel
theorem f213_85 : am_tab 213 85 = some (.goto (-59), 3, 26, 0, 0, .null) := by decide +kernel
theorem f213_88 : am_tab 213 88 = some (.iload_n 3, 1, 0, 0, 0, .null) := by decide +kernel
theorem f213_89 : am_tab 213 89 = some (.ifCond .ne 8, 3, 97, 0, 0, .null) := by decide +kernel
theorem f213_92 : am_tab 213 92 = some (.iload 6, 2, 0, 0, 0, .null) := by decide +kernel
theorem f213_94 : am_tab 213 94 = some (.goto 5, 3, 99, 0, 0, .null) := by decide +kernel
theorem f213_97 : am_tab 213 97 = some (.iload 7, 2, 0, 0, 0, .null) := by decide +kernel
theorem f213_99 : am_tab 213 99 = some (.ireturn, 1, 0, 0, 0, .null) := by decide +kernel
theorem f214_0 : am_tab 214 0 = some (.aload_n 0, 1, 0, 0, 0, .null) := by decide +kernel
theorem f214_1 : am_tab 214 1 = some (.iconst 0, 1, 0, 0, 0, .null) := by decide +kernel
theorem f214_2 : am_tab 214 2 = some (.putfield 50, 3, 10, 6, 5034, .null) := by decide +kernel
theorem f214_5 : am_tab 214 5 = some (.aload_n 0, 1, 0, 0, 0, .null) := by decide +kernel
theorem f214_6 : am_tab 214 6 = some (.iload_n 1, 1, 0, 0, 0, .null) := by decide +kernel
theorem f214_7 : am_tab 214 7 = some (.invokevirtual 84, 3, 152, 2, 5178, .int 0) := by decide +kernel
theorem f214_10 : am_tab 214 10 = some (.ifCond .ne 9, 3, 19, 0, 0, .null) := by decide +kernel
theorem f214_13 : am_tab 214 13 = some (.aload_n 0, 1, 0, 0, 0, .null) := by decide +kernel
theorem f214_14 : am_tab 214 14 = some (.iconst 1, 1, 0, 0, 0, .null) := by decide +kernel
theorem f214_15 : am_tab 214 15 = some (.invokevirtual 150, 3, 144, 2, 5100, .int 0) := by decide +kernel
theorem f214_18 : am_tab 214 18 = some (.ireturn, 1, 0, 0, 0, .null) := by decide +kernel
theorem f214_19 : am_tab 214 19 = some (.iload_n 2, 1, 0, 0, 0, .null) := by decide +kernel
theorem f214_20 : am_tab 214 20 = some (.iconst 0, 1, 0, 0, 0, .null) := by decide +kernel
theorem f214_21 : am_tab 214 21 = some (.iconst 2, 1, 0, 0, 0, .null) := by decide +kernel
theorem f214_22 : am_tab 214 22 = some (.invokestatic 54, 3, 145, 3, 5097, .int 2) := by decide +kernel
theorem f214_25 : am_tab 214 25 = some (.ifCond .eq 22, 3, 47, 0, 0, .null) := by decide +kernel
theorem f214_28 : am_tab 214 28 = some (.iload_n 3, 1, 0, 0, 0, .null) := by decide +kernel
theorem f214_29 : am_tab 214 29 = some (.iconst 0, 1, 0, 0, 0, .null) := by decide +kernel
theorem f214_30 : am_tab 214 30 = some (.iconst 1, 1, 0, 0, 0, .null) := by decide +kernel
theorem f214_31 : am_tab 214 31 = some (.invokestatic 54, 3, 145, 3, 5097, .int 2) := by decide +kernel
theorem f214_34 : am_tab 214 34 = some (.ifCond .eq 13, 3, 47, 0, 0, .null) := by decide +kernel
theorem f214_37 : am_tab 214 37 = some (.aload_n 0, 1, 0, 0, 0, .null) := by decide +kernel
theorem f214_38 : am_tab 214 38 = some (.iload_n 1, 1, 0, 0, 0, .null) := by decide +kernel
theorem f214_39 : am_tab 214 39 = some (.iload_n 2, 1, 0, 0, 0, .null) := by decide +kernel
theorem f214_40 : am_tab 214 40 = some (.iload_n 3, 1, 0, 0, 0, .null) := by decide +kernel
theorem f214_41 : am_tab 214 41 = some (.invokevirtual 230, 3, 213, 4, 6111, .int 0) := by decide +kernel
theorem f214_44 : am_tab 214 44 = some (.goto 8, 3, 52, 0, 0, .null) := by decide +kernel
theorem f214_47 : am_tab 214 47 = some (.aload_n 0, 1, 0, 0, 0, .null) := by decide +kernel
theorem f214_48 : am_tab 214 48 = some (.iconst 2, 1, 0, 0, 0, .null) := by decide +kernel
theorem f214_49 : am_tab 214 49 = some (.invokevirtual 150, 3, 144, 2, 5100, .int 0) := by decide +kernel
theorem f214_52 : am_tab 214 52 = some (.ireturn, 1, 0, 0, 0, .null) := by decide +kernel
theorem f215_0 : am_tab 215 0 = some (.iconst (-1), 1, 0, 0, 0, .null) := by decide +kernel
theorem f215_1 : am_tab 215 1 = some (.istore_n 3, 1, 0, 0, 0, .null) := by decide +kernel
theorem f215_2 : am_tab 215 2 = some (.iload_n 1, 1, 0, 0, 0, .null) := by decide +kernel
theorem f215_3 : am_tab 215 3 = some (.iconst 1, 1, 0, 0, 0, .null) := by decide +kernel
theorem f215_4 : am_tab 215 4 = some (.iadd, 1, 0, 0, 0, .null) := by decide +kernel
theorem f215_5 : am_tab 215 5 = some (.istore 4, 2, 0, 0, 0, .null) := by decide +kernel
theorem f215_7 : am_tab 215 7 = some (.iload 4, 2, 0, 0, 0, .null) := by decide +kernel
theorem f215_9 : am_tab 215 9 = some (.iload_n 2, 1, 0, 0, 0, .null) := by decide +kernel
theorem f215_10 : am_tab 215 10 = some (.if_icmp .ge 54, 3, 64, 0, 0, .null) := by decide +kernel
theorem f215_13 : am_tab 215 13 = some (.aload_n 0, 1, 0, 0, 0, .null) := by decide +kernel
theorem f215_14 : am_tab 215 14 = some (.getfield 41, 3, 10, 18, 5046, .null) := by decide +kernel
theorem f215_17 : am_tab 215 17 = some (.bipush 49, 2, 0, 0, 0, .null) := by decide +kernel
theorem f215_19 : am_tab 215 19 = some (.iload_n 1, 1, 0, 0, 0, .null) := by decide +kernel
theorem f215_20 : am_tab 215 20 = some (.imul, 1, 0, 0, 0, .null) := by decide +kernel
theorem f215_21 : am_tab 215 21 = some (.iload 4, 2, 0, 0, 0, .null) := by decide +kernel
theorem f215_23 : am_tab 215 23 = some (.iadd, 1, 0, 0, 0, .null) := by decide +kernel
theorem f215_24 : am_tab 215 24 = some (.iaload, 1, 0, 0, 0, .null) := by decide +kernel
theorem f215_25 : am_tab 215 25 = some (.aload_n 0, 1, 0, 0, 0, .null) := by decide +kernel
theorem f215_26 : am_tab 215 26 = some (.getfield 41, 3, 10, 18, 5046, .null) := by decide +kernel
theorem f215_29 : am_tab 215 29 = some (.bipush 49, 2, 0, 0, 0, .null) := by decide +kernel
theorem f215_31 : am_tab 215 31 = some (.iload 4, 2, 0, 0, 0, .null) := by decide +kernel
theorem f215_33 : am_tab 215 33 = some (.imul, 1, 0, 0, 0, .null) := by decide +kernel
theorem f215_34 : am_tab 215 34 = some (.iload_n 2, 1, 0, 0, 0, .null) := by decide +kernel
theorem f215_35 : am_tab 215 35 = some (.iadd, 1, 0, 0, 0, .null) := by decide +kernel
theorem f215_36 : am_tab 215 36 = some (.iaload, 1, 0, 0, 0, .null) := by decide +kernel
theorem f215_37 : am_tab 215 37 = some (.iadd, 1, 0, 0, 0, .null) := by decide +kernel
theorem f215_38 : am_tab 215 38 = some (.istore 5, 2, 0, 0, 0, .null) := by decide +kernel
theorem f215_40 : am_tab 215 40 = some (.iload_n 3, 1, 0, 0, 0, .null) := by decide +kernel
theorem f215_41 : am_tab 215 41 = some (.iconst (-1), 1, 0, 0, 0, .null) := by decide +kernel
theorem f215_42 : am_tab 215 42 = some (.if_icmp .eq 9, 3, 51, 0, 0, .null) := by decide +kernel
theorem f215_45 : am_tab 215 45 = some (.iload 5, 2, 0, 0, 0, .null) := by decide +kernel
theorem f215_47 : am_tab 215 47 = some (.iload_n 3, 1, 0, 0, 0, .null) := by decide +kernel
theorem f215_48 : am_tab 215 48 = some (.if_icmp .ge 8, 3, 56, 0, 0, .null) := by decide +kernel
theorem f215_51 : am_tab 215 51 = some (.iload 5, 2, 0, 0, 0, .null) := by decide +kernel
theorem f215_53 : am_tab 215 53 = some (.goto 4, 3, 57, 0, 0, .null) := by decide +kernel
theorem f215_56 : am_tab 215 56 = some (.iload_n 3, 1, 0, 0, 0, .null) := by decide +kernel
theorem f215_57 : am_tab 215 57 = some (.istore_n 3, 1, 0, 0, 0, .null) := by decide +kernel
theorem f215_58 : am_tab 215 58 = some (.iinc 4 1, 3, 0, 0, 0, .null) := by decide +kernel
theorem f215_61 : am_tab 215 61 = some (.goto (-54), 3, 7, 0, 0, .null) := by decide +kernel
theorem f215_64 : am_tab 215 64 = some (.iload_n 3, 1, 0, 0, 0, .null) := by decide +kernel
theorem f215_65 : am_tab 215 65 = some (.aload_n 0, 1, 0, 0, 0, .null) := by decide +kernel
theorem f215_66 : am_tab 215 66 = some (.iload_n 1, 1, 0, 0, 0, .null) := by decide +kernel
theorem f215_67 : am_tab 215 67 = some (.iload_n 2, 1, 0, 0, 0, .null) := by decide +kernel
theorem f215_68 : am_tab 215 68 = some (.iconst 2, 1, 0, 0, 0, .null) := by decide +kernel
theorem f215_69 : am_tab 215 69 = some (.invokevirtual 126, 3, 173, 4, 6010, .int 0) := by decide +kernel
theorem f215_72 : am_tab 215 72 = some (.iadd, 1, 0, 0, 0, .null) := by decide +kernel
theorem f215_73 : am_tab 215 73 = some (.ireturn, 1, 0, 0, 0, .null) := by decide +kernel
theorem f216_0 : am_tab 216 0 = some (.iload_n 1, 1, 0, 0, 0, .null) := by decide +kernel
theorem f216_1 : am_tab 216 1 = some (.istore_n 3, 1, 0, 0, 0, .null) := by decide +kernel
theorem f216_2 : am_tab 216 2 = some (.iload_n 3, 1, 0, 0, 0, .null) := by decide +kernel
theorem f216_3 : am_tab 216 3 = some (.iload_n 2, 1, 0, 0, 0, .null) := by decide +kernel
theorem f216_4 : am_tab 216 4 = some (.if_icmp .ge 23, 3, 27, 0, 0, .null) := by decide +kernel
theorem f216_7 : am_tab 216 7 = some (.aload_n 0, 1, 0, 0, 0, .null) := by decide +kernel
theorem f216_8 : am_tab 216 8 = some (.getfield 41, 3, 10, 18, 5046, .null) := by decide +kernel
theorem f216_11 : am_tab 216 11 = some (.bipush 49, 2, 0, 0, 0, .null) := by decide +kernel
theorem f216_13 : am_tab 216 13 = some (.iload_n 3, 1, 0, 0, 0, .null) := by decide +kernel
theorem f216_14 : am_tab 216 14 = some (.imul, 1, 0, 0, 0, .null) := by decide +kernel
theorem f216_15 : am_tab 216 15 = some (.iload_n 3, 1, 0, 0, 0, .null) := by decide +kernel
theorem f216_16 : am_tab 216 16 = some (.iadd, 1, 0, 0, 0, .null) := by decide +kernel
theorem f216_17 : am_tab 216 17 = some (.iconst 1, 1, 0, 0, 0, .null) := by decide +kernel
theorem f216_18 : am_tab 216 18 = some (.iadd, 1, 0, 0, 0, .null) := by decide +kernel
theorem f216_19 : am_tab 216 19 = some (.iconst 0, 1, 0, 0, 0, .null) := by decide +kernel
theorem f216_20 : am_tab 216 20 = some (.iastore, 1, 0, 0, 0, .null) := by decide +kernel
theorem f216_21 : am_tab 216 21 = some (.iinc 3 1, 3, 0, 0, 0, .null) := by decide +kernel
theorem f216_24 : am_tab 216 24 = some (.goto (-22), 3, 2, 0, 0, .null) := by decide +kernel
theorem f216_27 : am_tab 216 27 = some (.iconst 2, 1, 0, 0, 0, .null) := by decide +kernel
theorem f216_28 : am_tab 216 28 = some (.istore_n 3, 1, 0, 0, 0, .null) := by decide +kernel
theorem f216_29 : am_tab 216 29 = some (.iload_n 3, 1, 0, 0, 0, .null) := by decide +kernel
theorem f216_30 : am_tab 216 30 = some (.iload_n 2, 1, 0, 0, 0, .null) := by decide +kernel
theorem f216_31 : am_tab 216 31 = some (.iload_n 1, 1, 0, 0, 0, .null) := by decide +kernel
theorem f216_32 : am_tab 216 32 = some (.isub, 1, 0, 0, 0, .null) := by decide +kernel
theorem f216_33 : am_tab 216 33 = some (.if_icmp .gt 51, 3, 84, 0, 0, .null) := by decide +kernel
theorem f216_36 : am_tab 216 36 = some (.iload_n 1, 1, 0, 0, 0, .null) := by decide +kernel
theorem f216_37 : am_tab 216 37 = some (.istore 4, 2, 0, 0, 0, .null) := by decide +kernel
theorem f216_39 : am_tab 216 39 = some (.iload 4, 2, 0, 0, 0, .null) := by decide +kernel
theorem f216_41 : am_tab 216 41 = some (.iload_n 3, 1, 0, 0, 0, .null) := by decide +kernel
theorem f216_42 : am_tab 216 42 = some (.iadd, 1, 0, 0, 0, .null) := by decide +kernel
theorem f216_43 : am_tab 216 43 = some (.iload_n 2, 1, 0, 0, 0, .null) := by decide +kernel
theorem f216_44 : am_tab 216 44 = some (.if_icmp .gt 34, 3, 78, 0, 0, .null) := by decide +kernel
theorem f216_47 : am_tab 216 47 = some (.aload_n 0, 1, 0, 0, 0, .null) := by decide +kernel
theorem f216_48 : am_tab 216 48 = some (.getfield 41, 3, 10, 18, 5046, .null) := by decide +kernel
theorem f216_51 : am_tab 216 51 = some (.bipush 49, 2, 0, 0, 0, .null) := by decide +kernel
theorem f216_53 : am_tab 216 53 = some (.iload 4, 2, 0, 0, 0, .null) := by decide +kernel
theorem f216_55 : am_tab 216 55 = some (.imul, 1, 0, 0, 0, .null) := by decide +kernel
theorem f216_56 : am_tab 216 56 = some (.iload 4, 2, 0, 0, 0, .null) := by decide +kernel
theorem f216_58 : am_tab 216 58 = some (.iadd, 1, 0, 0, 0, .null) := by decide +kernel
theorem f216_59 : am_tab 216 59 = some (.iload_n 3, 1, 0, 0, 0, .null) := by decide +kernel
theorem f216_60 : am_tab 216 60 = some (.iadd, 1, 0, 0, 0, .null) := by decide +kernel
theorem f216_61 : am_tab 216 61 = some (.aload_n 0, 1, 0, 0, 0, .null) := by decide +kernel
theorem f216_62 : am_tab 216 62 = some (.iload 4, 2, 0, 0, 0, .null) := by decide +kernel
theorem f216_64 : am_tab 216 64 = some (.iload 4, 2, 0, 0, 0, .null) := by decide +kernel
theorem f216_66 : am_tab 216 66 = some (.iload_n 3, 1, 0, 0, 0, .null) := by decide +kernel
theorem f216_67 : am_tab 216 67 = some (.iadd, 1, 0, 0, 0, .null) := by decide +kernel
theorem f216_68 : am_tab 216 68 = some (.invokevirtual 233, 3, 215, 3, 6127, .int 0) := by decide +kernel
theorem f216_71 : am_tab 216 71 = some (.iastore, 1, 0, 0, 0, .null) := by decide +kernel
theorem f216_72 : am_tab 216 72 = some (.iinc 4 1, 3, 0, 0, 0, .null) := by decide +kernel
theorem f216_75 : am_tab 216 75 = some (.goto (-36), 3, 39, 0, 0, .null) := by decide +kernel
theorem f216_78 : am_tab 216 78 = some (.iinc 3 1, 3, 0, 0, 0, .null) := by decide +kernel
theorem f216_81 : am_tab 216 81 = some (.goto (-52), 3, 29, 0, 0, .null) := by decide +kernel
theorem f216_84 : am_tab 216 84 = some (.aload_n 0, 1, 0, 0, 0, .null) := by decide +kernel
theorem f216_85 : am_tab 216 85 = some (.getfield 41, 3, 10, 18, 5046, .null) := by decide +kernel
theorem f216_88 : am_tab 216 88 = some (.bipush 49, 2, 0, 0, 0, .null) := by decide +kernel
theorem f216_90 : am_tab 216 90 = some (.iload_n 1, 1, 0, 0, 0, .null) := by decide +kernel
theorem f216_91 : am_tab 216 91 = some (.imul, 1, 0, 0, 0, .null) := by decide +kernel
theorem f216_92 : am_tab 216 92 = some (.iload_n 2, 1, 0, 0, 0, .null) := by decide +kernel
theorem f216_93 : am_tab 216 93 = some (.iadd, 1, 0, 0, 0, .null) := by decide +kernel
theorem f216_94 : am_tab 216 94 = some (.iaload, 1, 0, 0, 0, .null) := by decide +kernel
theorem f216_95 : am_tab 216 95 = some (.ireturn, 1, 0, 0, 0, .null) := by decide +kernel
theorem f217_0 : am_tab 217 0 = some (.aload_n 0, 1, 0, 0, 0, .null) := by decide +kernel
theorem f217_1 : am_tab 217 1 = some (.iconst 0, 1, 0, 0, 0, .null) := by decide +kernel
theorem f217_2 : am_tab 217 2 = some (.putfield 50, 3, 10, 6, 5034, .null) := by decide +kernel
theorem f217_5 : am_tab 217 5 = some (.aload_n 0, 1, 0, 0, 0, .null) := by decide +kernel
theorem f217_6 : am_tab 217 6 = some (.iload_n 1, 1, 0, 0, 0, .null) := by decide +kernel
theorem f217_7 : am_tab 217 7 = some (.invokevirtual 84, 3, 152, 2, 5178, .int 0) := by decide +kernel
theorem f217_10 : am_tab 217 10 = some (.ifCond .eq 22, 3, 32, 0, 0, .null) := by decide +kernel
theorem f217_13 : am_tab 217 13 = some (.aload_n 0, 1, 0, 0, 0, .null) := by decide +kernel
theorem f217_14 : am_tab 217 14 = some (.aload_n 0, 1, 0, 0, 0, .null) := by decide +kernel
theorem f217_15 : am_tab 217 15 = some (.iload_n 1, 1, 0, 0, 0, .null) := by decide +kernel
theorem f217_16 : am_tab 217 16 = some (.invokevirtual 87, 3, 154, 2, 5202, .int 0) := by decide +kernel
theorem f217_19 : am_tab 217 19 = some (.aload_n 0, 1, 0, 0, 0, .null) := by decide +kernel
theorem f217_20 : am_tab 217 20 = some (.iload_n 1, 1, 0, 0, 0, .null) := by decide +kernel
theorem f217_21 : am_tab 217 21 = some (.iconst 1, 1, 0, 0, 0, .null) := by decide +kernel
theorem f217_22 : am_tab 217 22 = some (.iadd, 1, 0, 0, 0, .null) := by decide +kernel
theorem f217_23 : am_tab 217 23 = some (.invokevirtual 87, 3, 154, 2, 5202, .int 0) := by decide +kernel
theorem f217_26 : am_tab 217 26 = some (.invokevirtual 236, 3, 216, 3, 6123, .int 0) := by decide +kernel
theorem f217_29 : am_tab 217 29 = some (.goto 8, 3, 37, 0, 0, .null) := by decide +kernel
theorem f217_32 : am_tab 217 32 = some (.aload_n 0, 1, 0, 0, 0, .null) := by decide +kernel
theorem f217_33 : am_tab 217 33 = some (.iconst 1, 1, 0, 0, 0, .null) := by decide +kernel
theorem f217_34 : am_tab 217 34 = some (.invokevirtual 150, 3, 144, 2, 5100, .int 0) := by decide +kernel
theorem f217_37 : am_tab 217 37 = some (.ireturn, 1, 0, 0, 0, .null) := by decide +kernel
theorem f218_0 : am_tab 218 0 = some (.aload_n 0, 1, 0, 0, 0, .null) := by decide +kernel
theorem f218_1 : am_tab 218 1 = some (.iconst 0, 1, 0, 0, 0, .null) := by decide +kernel
theorem f218_2 : am_tab 218 2 = some (.putfield 50, 3, 10, 6, 5034, .null) := by decide +kernel
theorem f218_5 : am_tab 218 5 = some (.iload_n 1, 1, 0, 0, 0, .null) := by decide +kernel
theorem f218_6 : am_tab 218 6 = some (.iconst 1, 1, 0, 0, 0, .null) := by decide +kernel
theorem f218_7 : am_tab 218 7 = some (.bipush 11, 2, 0, 0, 0, .null) := by decide +kernel
theorem f218_9 : am_tab 218 9 = some (.invokestatic 54, 3, 145, 3, 5097, .int 2) := by decide +kernel
theorem f218_12 : am_tab 218 12 = some (.ifCond .eq 11, 3, 23, 0, 0, .null) := by decide +kernel
theorem f218_15 : am_tab 218 15 = some (.aload_n 0, 1, 0, 0, 0, .null) := by decide +kernel
theorem f218_16 : am_tab 218 16 = some (.iload_n 1, 1, 0, 0, 0, .null) := by decide +kernel
theorem f218_17 : am_tab 218 17 = some (.invokevirtual 120, 3, 169, 2, 5186, .int 0) := by decide +kernel
theorem f218_20 : am_tab 218 20 = some (.goto 8, 3, 28, 0, 0, .null) := by decide +kernel
theorem f218_23 : am_tab 218 23 = some (.aload_n 0, 1, 0, 0, 0, .null) := by decide +kernel
theorem f218_24 : am_tab 218 24 = some (.iconst 1, 1, 0, 0, 0, .null) := by decide +kernel
theorem f218_25 : am_tab 218 25 = some (.invokevirtual 150, 3, 144, 2, 5100, .int 0) := by decide +kernel
theorem f218_28 : am_tab 218 28 = some (.ireturn, 1, 0, 0, 0, .null) := by decide +kernel
theorem f219_0 : am_tab 219 0 = some (.aload_n 0, 1, 0, 0, 0, .null) := by decide +kernel
theorem f219_1 : am_tab 219 1 = some (.iload_n 1, 1, 0, 0, 0, .null) := by decide +kernel
theorem f219_2 : am_tab 219 2 = some (.iload_n 2, 1, 0, 0, 0, .null) := by decide +kernel
theorem f219_3 : am_tab 219 3 = some (.invokevirtual 133, 3, 156, 3, 5226, .int 0) := by decide +kernel
theorem f219_6 : am_tab 219 6 = some (.istore 4, 2, 0, 0, 0, .null) := by decide +kernel
theorem f219_8 : am_tab 219 8 = some (.iload_n 3, 1, 0, 0, 0, .null) := by decide +kernel
theorem f219_9 : am_tab 219 9 = some (.iconst 0, 1, 0, 0, 0, .null) := by decide +kernel
theorem f219_10 : am_tab 219 10 = some (.iload 4, 2, 0, 0, 0, .null) := by decide +kernel
theorem f219_12 : am_tab 219 12 = some (.invokestatic 54, 3, 145, 3, 5097, .int 2) := by decide +kernel
theorem f219_15 : am_tab 219 15 = some (.ifCond .ne 5, 3, 20, 0, 0, .null) := by decide +kernel
theorem f219_18 : am_tab 219 18 = some (.iconst 0, 1, 0, 0, 0, .null) := by decide +kernel
theorem f219_19 : am_tab 219 19 = some (.ireturn, 1, 0, 0, 0, .null) := by decide +kernel
theorem f219_20 : am_tab 219 20 = some (.iconst 0, 1, 0, 0, 0, .null) := by decide +kernel
theorem f219_21 : am_tab 219 21 = some (.istore 5, 2, 0, 0, 0, .null) := by decide +kernel
theorem f219_23 : am_tab 219 23 = some (.iload 5, 2, 0, 0, 0, .null) := by decide +kernel
theorem f219_25 : am_tab 219 25 = some (.iload 4, 2, 0, 0, 0, .null) := by decide +kernel
theorem f219_27 : am_tab 219 27 = some (.if_icmp .gt 26, 3, 53, 0, 0, .null) := by decide +kernel
theorem f219_30 : am_tab 219 30 = some (.aload_n 0, 1, 0, 0, 0, .null) := by decide +kernel
theorem f219_31 : am_tab 219 31 = some (.getfield 44, 3, 10, 19, 5047, .null) := by decide +kernel
theorem f219_34 : am_tab 219 34 = some (.iload 5, 2, 0, 0, 0, .null) := by decide +kernel
theorem f219_36 : am_tab 219 36 = some (.iload 5, 2, 0, 0, 0, .null) := by decide +kernel
theorem f219_38 : am_tab 219 38 = some (.ifCond .ne 7, 3, 45, 0, 0, .null) := by decide +kernel
theorem f219_41 : am_tab 219 41 = some (.iconst 1, 1, 0, 0, 0, .null) := by decide +kernel
theorem f219_42 : am_tab 219 42 = some (.goto 4, 3, 46, 0, 0, .null) := by decide +kernel
theorem f219_45 : am_tab 219 45 = some (.iconst 0, 1, 0, 0, 0, .null) := by decide +kernel
theorem f219_46 : am_tab 219 46 = some (.bastore, 1, 0, 0, 0, .null) := by decide +kernel
theorem f219_47 : am_tab 219 47 = some (.iinc 5 1, 3, 0, 0, 0, .null) := by decide +kernel
theorem f219_50 : am_tab 219 50 = some (.goto (-27), 3, 23, 0, 0, .null) := by decide +kernel
theorem f219_53 : am_tab 219 53 = some (.iload_n 1, 1, 0, 0, 0, .null) := by decide +kernel
theorem f219_54 : am_tab 219 54 = some (.istore 5, 2, 0, 0, 0, .null) := by decide +kernel
theorem f219_56 : am_tab 219 56 = some (.iload 5, 2, 0, 0, 0, .null) := by decide +kernel
theorem f219_58 : am_tab 219 58 = some (.iload_n 2, 1, 0, 0, 0, .null) := by decide +kernel
theorem f219_59 : am_tab 219 59 = some (.if_icmp .ge 75, 3, 134, 0, 0, .null) := by decide +kernel
theorem f219_62 : am_tab 219 62 = some (.iload 4, 2, 0, 0, 0, .null) := by decide +kernel
theorem f219_64 : am_tab 219 64 = some (.istore 6, 2, 0, 0, 0, .null) := by decide +kernel
theorem f219_66 : am_tab 219 66 = some (.iload 6, 2, 0, 0, 0, .null) := by decide +kernel
theorem f219_68 : am_tab 219 68 = some (.aload_n 0, 1, 0, 0, 0, .null) := by decide +kernel
theorem f219_69 : am_tab 219 69 = some (.getfield 7, 3, 10, 0, 5028, .null) := by decide +kernel
theorem f219_72 : am_tab 219 72 = some (.iconst 0, 1, 0, 0, 0, .null) := by decide +kernel
theorem f219_73 : am_tab 219 73 = some (.iload 5, 2, 0, 0, 0, .null) := by decide +kernel
theorem f219_75 : am_tab 219 75 = some (.iadd, 1, 0, 0, 0, .null) := by decide +kernel
theorem f219_76 : am_tab 219 76 = some (.iaload, 1, 0, 0, 0, .null) := by decide +kernel
theorem f219_77 : am_tab 219 77 = some (.if_icmp .lt 51, 3, 128, 0, 0, .null) := by decide +kernel
theorem f219_80 : am_tab 219 80 = some (.aload_n 0, 1, 0, 0, 0, .null) := by decide +kernel
theorem f219_81 : am_tab 219 81 = some (.getfield 44, 3, 10, 19, 5047, .null) := by decide +kernel
theorem f219_84 : am_tab 219 84 = some (.iload 6, 2, 0, 0, 0, .null) := by decide +kernel
theorem f219_86 : am_tab 219 86 = some (.aload_n 0, 1, 0, 0, 0, .null) := by decide +kernel
theorem f219_87 : am_tab 219 87 = some (.getfield 44, 3, 10, 19, 5047, .null) := by decide +kernel
theorem f219_90 : am_tab 219 90 = some (.iload 6, 2, 0, 0, 0, .null) := by decide +kernel
theorem f219_92 : am_tab 219 92 = some (.baload, 1, 0, 0, 0, .null) := by decide +kernel
theorem f219_93 : am_tab 219 93 = some (.ifCond .ne 23, 3, 116, 0, 0, .null) := by decide +kernel
theorem f219_96 : am_tab 219 96 = some (.aload_n 0, 1, 0, 0, 0, .null) := by decide +kernel
theorem f219_97 : am_tab 219 97 = some (.getfield 44, 3, 10, 19, 5047, .null) := by decide +kernel
theorem f219_100 : am_tab 219 100 = some (.iload 6, 2, 0, 0, 0, .null) := by decide +kernel
theorem f219_102 : am_tab 219 102 = some (.aload_n 0, 1, 0, 0, 0, .null) := by decide +kernel
theorem f219_103 : am_tab 219 103 = some (.getfield 7, 3, 10, 0, 5028, .null) := by decide +kernel
theorem f219_106 : am_tab 219 106 = some (.iconst 0, 1, 0, 0, 0, .null) := by decide +kernel
theorem f219_107 : am_tab 219 107 = some (.iload 5, 2, 0, 0, 0, .null) := by decide +kernel
theorem f219_109 : am_tab 219 109 = some (.iadd, 1, 0, 0, 0, .null) := by decide +kernel
theorem f219_110 : am_tab 219 110 = some (.iaload, 1, 0, 0, 0, .null) := by decide +kernel
theorem f219_111 : am_tab 219 111 = some (.isub, 1, 0, 0, 0, .null) := by decide +kernel
theorem f219_112 : am_tab 219 112 = some (.baload, 1, 0, 0, 0, .null) := by decide +kernel
theorem f219_113 : am_tab 219 113 = some (.ifCond .eq 7, 3, 120, 0, 0, .null) := by decide +kernel
theorem f219_116 : am_tab 219 116 = some (.iconst 1, 1, 0, 0, 0, .null) := by decide +kernel
theorem f219_117 : am_tab 219 117 = some (.goto 4, 3, 121, 0, 0, .null) := by decide +kernel
theorem f219_120 : am_tab 219 120 = some (.iconst 0, 1, 0, 0, 0, .null) := by decide +kernel
theorem f219_121 : am_tab 219 121 = some (.bastore, 1, 0, 0, 0, .null) := by decide +kernel
theorem f219_122 : am_tab 219 122 = some (.iinc 6 (-1), 3, 0, 0, 0, .null) := by decide +kernel
theorem f219_125 : am_tab 219 125 = some (.goto (-59), 3, 66, 0, 0, .null) := by decide +kernel
theorem f219_128 : am_tab 219 128 = some (.iinc 5 1, 3, 0, 0, 0, .null) := by decide +kernel
theorem f219_131 : am_tab 219 131 = some (.goto (-75), 3, 56, 0, 0, .null) := by decide +kernel
theorem f219_134 : am_tab 219 134 = some (.aload_n 0, 1, 0, 0, 0, .null) := by decide +kernel
theorem f219_135 : am_tab 219 135 = some (.getfield 44, 3, 10, 19, 5047, .null) := by decide +kernel
theorem f219_138 : am_tab 219 138 = some (.iload_n 3, 1, 0, 0, 0, .null) := by decide +kernel
theorem f219_139 : am_tab 219 139 = some (.baload, 1, 0, 0, 0, .null) := by decide +kernel
theorem f219_140 : am_tab 219 140 = some (.ireturn, 1, 0, 0, 0, .null) := by decide +kernel
theorem f220_0 : am_tab 220 0 = some (.aload_n 0, 1, 0, 0, 0, .null) := by decide +kernel
theorem f220_1 : am_tab 220 1 = some (.iconst 0, 1, 0, 0, 0, .null) := by decide +kernel
theorem f220_2 : am_tab 220 2 = some (.putfield 50, 3, 10, 6, 5034, .null) := by decide +kernel
theorem f220_5 : am_tab 220 5 = some (.aload_n 0, 1, 0, 0, 0, .null) := by decide +kernel
theorem f220_6 : am_tab 220 6 = some (.iload_n 1, 1, 0, 0, 0, .null) := by decide +kernel
theorem f220_7 : am_tab 220 7 = some (.invokevirtual 84, 3, 152, 2, 5178, .int 0) := by decide +kernel
theorem f220_10 : am_tab 220 10 = some (.ifCond .ne 9, 3, 19, 0, 0, .null) := by decide +kernel
theorem f220_13 : am_tab 220 13 = some (.aload_n 0, 1, 0, 0, 0, .null) := by decide +kernel
theorem f220_14 : am_tab 220 14 = some (.iconst 1, 1, 0, 0, 0, .null) := by decide +kernel
theorem f220_15 : am_tab 220 15 = some (.invokevirtual 150, 3, 144, 2, 5100, .int 0) := by decide +kernel
theorem f220_18 : am_tab 220 18 = some (.ireturn, 1, 0, 0, 0, .null) := by decide +kernel
theorem f220_19 : am_tab 220 19 = some (.aload_n 0, 1, 0, 0, 0, .null) := by decide +kernel
theorem f220_20 : am_tab 220 20 = some (.getfield 7, 3, 10, 0, 5028, .null) := by decide +kernel
theorem f220_23 : am_tab 220 23 = some (.sipush 192, 3, 0, 0, 0, .null) := by decide +kernel
theorem f220_26 : am_tab 220 26 = some (.iaload, 1, 0, 0, 0, .null) := by decide +kernel
theorem f220_27 : am_tab 220 27 = some (.ifCond .ne 9, 3, 36, 0, 0, .null) := by decide +kernel
theorem f220_30 : am_tab 220 30 = some (.aload_n 0, 1, 0, 0, 0, .null) := by decide +kernel
theorem f220_31 : am_tab 220 31 = some (.iconst 2, 1, 0, 0, 0, .null) := by decide +kernel
theorem f220_32 : am_tab 220 32 = some (.invokevirtual 150, 3, 144, 2, 5100, .int 0) := by decide +kernel
theorem f220_35 : am_tab 220 35 = some (.ireturn, 1, 0, 0, 0, .null) := by decide +kernel
theorem f220_36 : am_tab 220 36 = some (.aload_n 0, 1, 0, 0, 0, .null) := by decide +kernel
theorem f220_37 : am_tab 220 37 = some (.aload_n 0, 1, 0, 0, 0, .null) := by decide +kernel
theorem f220_38 : am_tab 220 38 = some (.iload_n 1, 1, 0, 0, 0, .null) := by decide +kernel
theorem f220_39 : am_tab 220 39 = some (.invokevirtual 87, 3, 154, 2, 5202, .int 0) := by decide +kernel
theorem f220_42 : am_tab 220 42 = some (.aload_n 0, 1, 0, 0, 0, .null) := by decide +kernel
theorem f220_43 : am_tab 220 43 = some (.iload_n 1, 1, 0, 0, 0, .null) := by decide +kernel
theorem f220_44 : am_tab 220 44 = some (.iconst 1, 1, 0, 0, 0, .null) := by decide +kernel
theorem f220_45 : am_tab 220 45 = some (.iadd, 1, 0, 0, 0, .null) := by decide +kernel
theorem f220_46 : am_tab 220 46 = some (.invokevirtual 87, 3, 154, 2, 5202, .int 0) := by decide +kernel
theorem f220_49 : am_tab 220 49 = some (.aload_n 0, 1, 0, 0, 0, .null) := by decide +kernel
theorem f220_50 : am_tab 220 50 = some (.getfield 7, 3, 10, 0, 5028, .null) := by decide +kernel
theorem f220_53 : am_tab 220 53 = some (.sipush 193, 3, 0, 0, 0, .null) := by decide +kernel
theorem f220_56 : am_tab 220 56 = some (.iload_n 1, 1, 0, 0, 0, .null) := by decide +kernel
theorem f220_57 : am_tab 220 57 = some (.iadd, 1, 0, 0, 0, .null) := by decide +kernel
theorem f220_58 : am_tab 220 58 = some (.iaload, 1, 0, 0, 0, .null) := by decide +kernel
theorem f220_59 : am_tab 220 59 = some (.invokevirtual 239, 3, 219, 4, 6139, .int 0) := by decide +kernel
theorem f220_62 : am_tab 220 62 = some (.ifCond .eq 7, 3, 69, 0, 0, .null) := by decide +kernel
theorem f220_65 : am_tab 220 65 = some (.iconst 1, 1, 0, 0, 0, .null) := by decide +kernel
theorem f220_66 : am_tab 220 66 = some (.goto 4, 3, 70, 0, 0, .null) := by decide +kernel
theorem f220_69 : am_tab 220 69 = some (.iconst 0, 1, 0, 0, 0, .null) := by decide +kernel
theorem f220_70 : am_tab 220 70 = some (.ireturn, 1, 0, 0, 0, .null) := by decide +kernel
theorem f221_0 : am_tab 221 0 = some (.aload_n 0, 1, 0, 0, 0, .null) := by decide +kernel
theorem f221_1 : am_tab 221 1 = some (.iconst 0, 1, 0, 0, 0, .null) := by decide +kernel
theorem f221_2 : am_tab 221 2 = some (.putfield 50, 3, 10, 6, 5034, .null) := by decide +kernel
theorem f221_5 : am_tab 221 5 = some (.iconst (-1), 1, 0, 0, 0, .null) := by decide +kernel
theorem f221_6 : am_tab 221 6 = some (.istore_n 1, 1, 0, 0, 0, .null) := by decide +kernel
theorem f221_7 : am_tab 221 7 = some (.iconst 0, 1, 0, 0, 0, .null) := by decide +kernel
theorem f221_8 : am_tab 221 8 = some (.istore_n 2, 1, 0, 0, 0, .null) := by decide +kernel
theorem f221_9 : am_tab 221 9 = some (.iconst 0, 1, 0, 0, 0, .null) := by decide +kernel
theorem f221_10 : am_tab 221 10 = some (.istore_n 3, 1, 0, 0, 0, .null) := by decide +kernel
theorem f221_11 : am_tab 221 11 = some (.iload_n 3, 1, 0, 0, 0, .null) := by decide +kernel
theorem f221_12 : am_tab 221 12 = some (.aload_n 0, 1, 0, 0, 0, .null) := by decide +kernel
theorem f221_13 : am_tab 221 13 = some (.invokevirtual 61, 3, 151, 1, 5166, .int 0) := by decide +kernel
theorem f221_16 : am_tab 221 16 = some (.if_icmp .ge 90, 3, 106, 0, 0, .null) := by decide +kernel
theorem f221_19 : am_tab 221 19 = some (.aload_n 0, 1, 0, 0, 0, .null) := by decide +kernel
theorem f221_20 : am_tab 221 20 = some (.getfield 7, 3, 10, 0, 5028, .null) := by decide +kernel
theorem f221_23 : am_tab 221 23 = some (.sipush 192, 3, 0, 0, 0, .null) := by decide +kernel
theorem f221_26 : am_tab 221 26 = some (.iaload, 1, 0, 0, 0, .null) := by decide +kernel
theorem f221_27 : am_tab 221 27 = some (.iconst 1, 1, 0, 0, 0, .null) := by decide +kernel
theorem f221_28 : am_tab 221 28 = some (.if_icmp .ne 78, 3, 106, 0, 0, .null) := by decide +kernel
theorem f221_31 : am_tab 221 31 = some (.aload_n 0, 1, 0, 0, 0, .null) := by decide +kernel
theorem f221_32 : am_tab 221 32 = some (.getfield 7, 3, 10, 0, 5028, .null) := by decide +kernel
theorem f221_35 : am_tab 221 35 = some (.sipush 193, 3, 0, 0, 0, .null) := by decide +kernel
theorem f221_38 : am_tab 221 38 = some (.iload_n 3, 1, 0, 0, 0, .null) := by decide +kernel
theorem f221_39 : am_tab 221 39 = some (.iadd, 1, 0, 0, 0, .null) := by decide +kernel
theorem f221_40 : am_tab 221 40 = some (.iaload, 1, 0, 0, 0, .null) := by decide +kernel
theorem f221_41 : am_tab 221 41 = some (.aload_n 0, 1, 0, 0, 0, .null) := by decide +kernel
theorem f221_42 : am_tab 221 42 = some (.aload_n 0, 1, 0, 0, 0, .null) := by decide +kernel
theorem f221_43 : am_tab 221 43 = some (.iload_n 3, 1, 0, 0, 0, .null) := by decide +kernel
theorem f221_44 : am_tab 221 44 = some (.invokevirtual 87, 3, 154, 2, 5202, .int 0) := by decide +kernel
theorem f221_47 : am_tab 221 47 = some (.aload_n 0, 1, 0, 0, 0, .null) := by decide +kernel
theorem f221_48 : am_tab 221 48 = some (.iload_n 3, 1, 0, 0, 0, .null) := by decide +kernel
theorem f221_49 : am_tab 221 49 = some (.iconst 1, 1, 0, 0, 0, .null) := by decide +kernel
theorem f221_50 : am_tab 221 50 = some (.iadd, 1, 0, 0, 0, .null) := by decide +kernel
theorem f221_51 : am_tab 221 51 = some (.invokevirtual 87, 3, 154, 2, 5202, .int 0) := by decide +kernel
theorem f221_54 : am_tab 221 54 = some (.invokevirtual 90, 3, 157, 3, 5210, .int 0) := by decide +kernel
theorem f221_57 : am_tab 221 57 = some (.isub, 1, 0, 0, 0, .null) := by decide +kernel
theorem f221_58 : am_tab 221 58 = some (.istore 4, 2, 0, 0, 0, .null) := by decide +kernel
theorem f221_60 : am_tab 221 60 = some (.iload 4, 2, 0, 0, 0, .null) := by decide +kernel
theorem f221_62 : am_tab 221 62 = some (.ifCond .ge 9, 3, 71, 0, 0, .null) := by decide +kernel
theorem f221_65 : am_tab 221 65 = some (.iload 4, 2, 0, 0, 0, .null) := by decide +kernel
theorem f221_67 : am_tab 221 67 = some (.ineg, 1, 0, 0, 0, .null) := by decide +kernel
theorem f221_68 : am_tab 221 68 = some (.goto 5, 3, 73, 0, 0, .null) := by decide +kernel
theorem f221_71 : am_tab 221 71 = some (.iload 4, 2, 0, 0, 0, .null) := by decide +kernel
theorem f221_73 : am_tab 221 73 = some (.istore 4, 2, 0, 0, 0, .null) := by decide +kernel
theorem f221_75 : am_tab 221 75 = some (.iload 4, 2, 0, 0, 0, .null) := by decide +kernel
theorem f221_77 : am_tab 221 77 = some (.iload_n 2, 1, 0, 0, 0, .null) := by decide +kernel
theorem f221_78 : am_tab 221 78 = some (.if_icmp .le 7, 3, 85, 0, 0, .null) := by decide +kernel
theorem f221_81 : am_tab 221 81 = some (.iload_n 3, 1, 0, 0, 0, .null) := by decide +kernel
theorem f221_82 : am_tab 221 82 = some (.goto 4, 3, 86, 0, 0, .null) := by decide +kernel
theorem f221_85 : am_tab 221 85 = some (.iload_n 1, 1, 0, 0, 0, .null) := by decide +kernel
theorem f221_86 : am_tab 221 86 = some (.istore_n 1, 1, 0, 0, 0, .null) := by decide +kernel
theorem f221_87 : am_tab 221 87 = some (.iload 4, 2, 0, 0, 0, .null) := by decide +kernel
theorem f221_89 : am_tab 221 89 = some (.iload_n 2, 1, 0, 0, 0, .null) := by decide +kernel
theorem f221_90 : am_tab 221 90 = some (.if_icmp .le 8, 3, 98, 0, 0, .null) := by decide +kernel
theorem f221_93 : am_tab 221 93 = some (.iload 4, 2, 0, 0, 0, .null) := by decide +kernel
theorem f221_95 : am_tab 221 95 = some (.goto 4, 3, 99, 0, 0, .null) := by decide +kernel
theorem f221_98 : am_tab 221 98 = some (.iload_n 2, 1, 0, 0, 0, .null) := by decide +kernel
theorem f221_99 : am_tab 221 99 = some (.istore_n 2, 1, 0, 0, 0, .null) := by decide +kernel
theorem f221_100 : am_tab 221 100 = some (.iinc 3 1, 3, 0, 0, 0, .null) := by decide +kernel
theorem f221_103 : am_tab 221 103 = some (.goto (-92), 3, 11, 0, 0, .null) := by decide +kernel
theorem f221_106 : am_tab 221 106 = some (.iload_n 1, 1, 0, 0, 0, .null) := by decide +kernel
theorem f221_107 : am_tab 221 107 = some (.ireturn, 1, 0, 0, 0, .null) := by decide +kernel
theorem f222_0 : am_tab 222 0 = some (.aload_n 0, 1, 0, 0, 0, .null) := by decide +kernel
theorem f222_1 : am_tab 222 1 = some (.iload_n 1, 1, 0, 0, 0, .null) := by decide +kernel
theorem f222_2 : am_tab 222 2 = some (.invokevirtual 84, 3, 152, 2, 5178, .int 0) := by decide +kernel
theorem f222_5 : am_tab 222 5 = some (.ifCond .eq 24, 3, 29, 0, 0, .null) := by decide +kernel
theorem f222_8 : am_tab 222 8 = some (.aload_n 0, 1, 0, 0, 0, .null) := by decide +kernel
theorem f222_9 : am_tab 222 9 = some (.iload_n 1, 1, 0, 0, 0, .null) := by decide +kernel
theorem f222_10 : am_tab 222 10 = some (.iconst 1, 1, 0, 0, 0, .null) := by decide +kernel
theorem f222_11 : am_tab 222 11 = some (.iadd, 1, 0, 0, 0, .null) := by decide +kernel
theorem f222_12 : am_tab 222 12 = some (.invokevirtual 87, 3, 154, 2, 5202, .int 0) := by decide +kernel
theorem f222_15 : am_tab 222 15 = some (.aload_n 0, 1, 0, 0, 0, .null) := by decide +kernel
theorem f222_16 : am_tab 222 16 = some (.iload_n 1, 1, 0, 0, 0, .null) := by decide +kernel
theorem f222_17 : am_tab 222 17 = some (.invokevirtual 87, 3, 154, 2, 5202, .int 0) := by decide +kernel
theorem f222_20 : am_tab 222 20 = some (.isub, 1, 0, 0, 0, .null) := by decide +kernel
theorem f222_21 : am_tab 222 21 = some (.iload_n 2, 1, 0, 0, 0, .null) := by decide +kernel
theorem f222_22 : am_tab 222 22 = some (.if_icmp .lt 7, 3, 29, 0, 0, .null) := by decide +kernel
theorem f222_25 : am_tab 222 25 = some (.iconst 1, 1, 0, 0, 0, .null) := by decide +kernel
theorem f222_26 : am_tab 222 26 = some (.goto 4, 3, 30, 0, 0, .null) := by decide +kernel
theorem f222_29 : am_tab 222 29 = some (.iconst 0, 1, 0, 0, 0, .null) := by decide +kernel
theorem f222_30 : am_tab 222 30 = some (.ireturn, 1, 0, 0, 0, .null) := by decide +kernel
theorem f223_0 : am_tab 223 0 = some (.iload_n 1, 1, 0, 0, 0, .null) := by decide +kernel
theorem f223_1 : am_tab 223 1 = some (.tableswitch 289 1 9 #[51, 86, 121, 143, 164, 187, 216, 248, 261], 51, 0, 0, 0, .null) := by decide +kernel
theorem f223_52 : am_tab 223 52 = some (.iload_n 3, 1, 0, 0, 0, .null) := by decide +kernel
theorem f223_53 : am_tab 223 53 = some (.ifCond .ne 32, 3, 85, 0, 0, .null) := by decide +kernel
theorem f223_56 : am_tab 223 56 = some (.iload 4, 2, 0, 0, 0, .null) := by decide +kernel
theorem f223_58 : am_tab 223 58 = some (.iconst 2, 1, 0, 0, 0, .null) := by decide +kernel
theorem f223_59 : am_tab 223 59 = some (.if_icmp .ge 26, 3, 85, 0, 0, .null) := by decide +kernel
theorem f223_62 : am_tab 223 62 = some (.aload_n 0, 1, 0, 0, 0, .null) := by decide +kernel
theorem f223_63 : am_tab 223 63 = some (.iload_n 2, 1, 0, 0, 0, .null) := by decide +kernel
theorem f223_64 : am_tab 223 64 = some (.iload 4, 2, 0, 0, 0, .null) := by decide +kernel
theorem f223_66 : am_tab 223 66 = some (.iconst 1, 1, 0, 0, 0, .null) := by decide +kernel
theorem f223_67 : am_tab 223 67 = some (.if_icmp .ne 7, 3, 74, 0, 0, .null) := by decide +kernel
theorem f223_70 : am_tab 223 70 = some (.iconst 1, 1, 0, 0, 0, .null) := by decide +kernel
theorem f223_71 : am_tab 223 71 = some (.goto 4, 3, 75, 0, 0, .null) := by decide +kernel
theorem f223_74 : am_tab 223 74 = some (.iconst 0, 1, 0, 0, 0, .null) := by decide +kernel
theorem f223_75 : am_tab 223 75 = some (.invokevirtual 186, 3, 159, 3, 5147, .int 0) := by decide +kernel
theorem f223_78 : am_tab 223 78 = some (.ifCond .eq 7, 3, 85, 0, 0, .null) := by decide +kernel
theorem f223_81 : am_tab 223 81 = some (.iconst 1, 1, 0, 0, 0, .null) := by decide +kernel
theorem f223_82 : am_tab 223 82 = some (.goto 4, 3, 86, 0, 0, .null) := by decide +kernel
theorem f223_85 : am_tab 223 85 = some (.iconst 0, 1, 0, 0, 0, .null) := by decide +kernel
theorem f223_86 : am_tab 223 86 = some (.ireturn, 1, 0, 0, 0, .null) := by decide +kernel
theorem f223_87 : am_tab 223 87 = some (.iload_n 3, 1, 0, 0, 0, .null) := by decide +kernel
theorem f223_88 : am_tab 223 88 = some (.ifCond .ne 32, 3, 120, 0, 0, .null) := by decide +kernel
theorem f223_91 : am_tab 223 91 = some (.iload 4, 2, 0, 0, 0, .null) := by decide +kernel
theorem f223_93 : am_tab 223 93 = some (.iconst 2, 1, 0, 0, 0, .null) := by decide +kernel
theorem f223_94 : am_tab 223 94 = some (.if_icmp .ge 26, 3, 120, 0, 0, .null) := by decide +kernel
theorem f223_97 : am_tab 223 97 = some (.aload_n 0, 1, 0, 0, 0, .null) := by decide +kernel
theorem f223_98 : am_tab 223 98 = some (.iload_n 2, 1, 0, 0, 0, .null) := by decide +kernel
theorem f223_99 : am_tab 223 99 = some (.iload 4, 2, 0, 0, 0, .null) := by decide +kernel
theorem f223_101 : am_tab 223 101 = some (.iconst 1, 1, 0, 0, 0, .null) := by decide +kernel
theorem f223_102 : am_tab 223 102 = some (.if_icmp .ne 7, 3, 109, 0, 0, .null) := by decide +kernel
theorem f223_105 : am_tab 223 105 = some (.iconst 1, 1, 0, 0, 0, .null) := by decide +kernel
theorem f223_106 : am_tab 223 106 = some (.goto 4, 3, 110, 0, 0, .null) := by decide +kernel
theorem f223_109 : am_tab 223 109 = some (.iconst 0, 1, 0, 0, 0, .null) := by decide +kernel
theorem f223_110 : am_tab 223 110 = some (.invokevirtual 193, 3, 162, 3, 5158, .int 0) := by decide +kernel
theorem f223_113 : am_tab 223 113 = some (.ifCond .eq 7, 3, 120, 0, 0, .null) := by decide +kernel
theorem f223_116 : am_tab 223 116 = some (.iconst 1, 1, 0, 0, 0, .null) := by decide +kernel
theorem f223_117 : am_tab 223 117 = some (.goto 4, 3, 121, 0, 0, .null) := by decide +kernel
theorem f223_120 : am_tab 223 120 = some (.iconst 0, 1, 0, 0, 0, .null) := by decide +kernel
theorem f223_121 : am_tab 223 121 = some (.ireturn, 1, 0, 0, 0, .null) := by decide +kernel
theorem f223_122 : am_tab 223 122 = some (.iload_n 3, 1, 0, 0, 0, .null) := by decide +kernel
theorem f223_123 : am_tab 223 123 = some (.ifCond .ne 19, 3, 142, 0, 0, .null) := by decide +kernel
theorem f223_126 : am_tab 223 126 = some (.aload_n 0, 1, 0, 0, 0, .null) := by decide +kernel
theorem f223_127 : am_tab 223 127 = some (.iload_n 2, 1, 0, 0, 0, .null) := by decide +kernel
theorem f223_128 : am_tab 223 128 = some (.iload 4, 2, 0, 0, 0, .null) := by decide +kernel
theorem f223_130 : am_tab 223 130 = some (.iconst 2, 1, 0, 0, 0, .null) := by decide +kernel
theorem f223_131 : am_tab 223 131 = some (.isub, 1, 0, 0, 0, .null) := by decide +kernel
theorem f223_132 : am_tab 223 132 = some (.invokevirtual 196, 3, 163, 3, 5174, .int 0) := by decide +kernel
theorem f223_135 : am_tab 223 135 = some (.ifCond .eq 7, 3, 142, 0, 0, .null) := by decide +kernel
theorem f223_138 : am_tab 223 138 = some (.iconst 1, 1, 0, 0, 0, .null) := by decide +kernel
theorem f223_139 : am_tab 223 139 = some (.goto 4, 3, 143, 0, 0, .null) := by decide +kernel
theorem f223_142 : am_tab 223 142 = some (.iconst 0, 1, 0, 0, 0, .null) := by decide +kernel
theorem f223_143 : am_tab 223 143 = some (.ireturn, 1, 0, 0, 0, .null) := by decide +kernel
theorem f223_144 : am_tab 223 144 = some (.iload_n 2, 1, 0, 0, 0, .null) := by decide +kernel
theorem f223_145 : am_tab 223 145 = some (.ifCond .ne 18, 3, 163, 0, 0, .null) := by decide +kernel
theorem f223_148 : am_tab 223 148 = some (.iload_n 3, 1, 0, 0, 0, .null) := by decide +kernel
theorem f223_149 : am_tab 223 149 = some (.ifCond .ne 14, 3, 163, 0, 0, .null) := by decide +kernel
theorem f223_152 : am_tab 223 152 = some (.iload 4, 2, 0, 0, 0, .null) := by decide +kernel
theorem f223_154 : am_tab 223 154 = some (.ifCond .ne 9, 3, 163, 0, 0, .null) := by decide +kernel
theorem f223_157 : am_tab 223 157 = some (.aload_n 0, 1, 0, 0, 0, .null) := by decide +kernel
theorem f223_158 : am_tab 223 158 = some (.invokevirtual 202, 3, 164, 1, 5198, .int 0) := by decide +kernel
theorem f223_161 : am_tab 223 161 = some (.iconst 1, 1, 0, 0, 0, .null) := by decide +kernel
theorem f223_162 : am_tab 223 162 = some (.ireturn, 1, 0, 0, 0, .null) := by decide +kernel
theorem f223_163 : am_tab 223 163 = some (.iconst 0, 1, 0, 0, 0, .null) := by decide +kernel
theorem f223_164 : am_tab 223 164 = some (.ireturn, 1, 0, 0, 0, .null) := by decide +kernel
theorem f223_165 : am_tab 223 165 = some (.iload_n 2, 1, 0, 0, 0, .null) := by decide +kernel
theorem f223_166 : am_tab 223 166 = some (.ifCond .ne 20, 3, 186, 0, 0, .null) := by decide +kernel
theorem f223_169 : am_tab 223 169 = some (.iload_n 3, 1, 0, 0, 0, .null) := by decide +kernel
theorem f223_170 : am_tab 223 170 = some (.ifCond .ne 16, 3, 186, 0, 0, .null) := by decide +kernel
theorem f223_173 : am_tab 223 173 = some (.aload_n 0, 1, 0, 0, 0, .null) := by decide +kernel
theorem f223_174 : am_tab 223 174 = some (.iload 4, 2, 0, 0, 0, .null) := by decide +kernel
theorem f223_176 : am_tab 223 176 = some (.invokevirtual 205, 3, 166, 2, 5214, .int 0) := by decide +kernel
theorem f223_179 : am_tab 223 179 = some (.ifCond .eq 7, 3, 186, 0, 0, .null) := by decide +kernel
theorem f223_182 : am_tab 223 182 = some (.iconst 1, 1, 0, 0, 0, .null) := by decide +kernel
theorem f223_183 : am_tab 223 183 = some (.goto 4, 3, 187, 0, 0, .null) := by decide +kernel
theorem f223_186 : am_tab 223 186 = some (.iconst 0, 1, 0, 0, 0, .null) := by decide +kernel
theorem f223_187 : am_tab 223 187 = some (.ireturn, 1, 0, 0, 0, .null) := by decide +kernel
theorem f223_188 : am_tab 223 188 = some (.aload_n 0, 1, 0, 0, 0, .null) := by decide +kernel
theorem f223_189 : am_tab 223 189 = some (.getfield 7, 3, 10, 0, 5028, .null) := by decide +kernel
theorem f223_192 : am_tab 223 192 = some (.sipush 217, 3, 0, 0, 0, .null) := by decide +kernel
theorem f223_195 : am_tab 223 195 = some (.iaload, 1, 0, 0, 0, .null) := by decide +kernel
theorem f223_196 : am_tab 223 196 = some (.bipush 100, 2, 0, 0, 0, .null) := by decide +kernel
theorem f223_198 : am_tab 223 198 = some (.iload_n 2, 1, 0, 0, 0, .null) := by decide +kernel
theorem f223_199 : am_tab 223 199 = some (.imul, 1, 0, 0, 0, .null) := by decide +kernel
theorem f223_200 : am_tab 223 200 = some (.bipush 10, 2, 0, 0, 0, .null) := by decide +kernel
theorem f223_202 : am_tab 223 202 = some (.iload_n 3, 1, 0, 0, 0, .null) := by decide +kernel
theorem f223_203 : am_tab 223 203 = some (.imul, 1, 0, 0, 0, .null) := by decide +kernel
theorem f223_204 : am_tab 223 204 = some (.iadd, 1, 0, 0, 0, .null) := by decide +kernel
theorem f223_205 : am_tab 223 205 = some (.iload 4, 2, 0, 0, 0, .null) := by decide +kernel
theorem f223_207 : am_tab 223 207 = some (.iadd, 1, 0, 0, 0, .null) := by decide +kernel
theorem f223_208 : am_tab 223 208 = some (.if_icmp .gt 7, 3, 215, 0, 0, .null) := by decide +kernel
theorem f223_211 : am_tab 223 211 = some (.iconst 1, 1, 0, 0, 0, .null) := by decide +kernel
theorem f223_212 : am_tab 223 212 = some (.goto 4, 3, 216, 0, 0, .null) := by decide +kernel
theorem f223_215 : am_tab 223 215 = some (.iconst 0, 1, 0, 0, 0, .null) := by decide +kernel
theorem f223_216 : am_tab 223 216 = some (.ireturn, 1, 0, 0, 0, .null) := by decide +kernel
theorem f223_217 : am_tab 223 217 = some (.iload_n 3, 1, 0, 0, 0, .null) := by decide +kernel
theorem f223_218 : am_tab 223 218 = some (.ifCond .ne 29, 3, 247, 0, 0, .null) := by decide +kernel
theorem f223_221 : am_tab 223 221 = some (.iload_n 2, 1, 0, 0, 0, .null) := by decide +kernel
theorem f223_222 : am_tab 223 222 = some (.invokestatic 73, 3, 147, 1, 5151, .int 2) := by decide +kernel
theorem f223_225 : am_tab 223 225 = some (.ifCond .eq 22, 3, 247, 0, 0, .null) := by decide +kernel
theorem f223_228 : am_tab 223 228 = some (.aload_n 0, 1, 0, 0, 0, .null) := by decide +kernel
theorem f223_229 : am_tab 223 229 = some (.getfield 7, 3, 10, 0, 5028, .null) := by decide +kernel
theorem f223_232 : am_tab 223 232 = some (.sipush 218, 3, 0, 0, 0, .null) := by decide +kernel
theorem f223_235 : am_tab 223 235 = some (.iload_n 2, 1, 0, 0, 0, .null) := by decide +kernel
theorem f223_236 : am_tab 223 236 = some (.iadd, 1, 0, 0, 0, .null) := by decide +kernel
theorem f223_237 : am_tab 223 237 = some (.iaload, 1, 0, 0, 0, .null) := by decide +kernel
theorem f223_238 : am_tab 223 238 = some (.iload 4, 2, 0, 0, 0, .null) := by decide +kernel
theorem f223_240 : am_tab 223 240 = some (.if_icmp .ne 7, 3, 247, 0, 0, .null) := by decide +kernel
theorem f223_243 : am_tab 223 243 = some (.iconst 1, 1, 0, 0, 0, .null) := by decide +kernel
theorem f223_244 : am_tab 223 244 = some (.goto 4, 3, 248, 0, 0, .null) := by decide +kernel
theorem f223_247 : am_tab 223 247 = some (.iconst 0, 1, 0, 0, 0, .null) := by decide +kernel
theorem f223_248 : am_tab 223 248 = some (.ireturn, 1, 0, 0, 0, .null) := by decide +kernel
theorem f223_249 : am_tab 223 249 = some (.aload_n 0, 1, 0, 0, 0, .null) := by decide +kernel
theorem f223_250 : am_tab 223 250 = some (.iload_n 2, 1, 0, 0, 0, .null) := by decide +kernel
theorem f223_251 : am_tab 223 251 = some (.bipush 10, 2, 0, 0, 0, .null) := by decide +kernel
theorem f223_253 : am_tab 223 253 = some (.iload_n 3, 1, 0, 0, 0, .null) := by decide +kernel
theorem f223_254 : am_tab 223 254 = some (.imul, 1, 0, 0, 0, .null) := by decide +kernel
theorem f223_255 : am_tab 223 255 = some (.iload 4, 2, 0, 0, 0, .null) := by decide +kernel
theorem f223_257 : am_tab 223 257 = some (.iadd, 1, 0, 0, 0, .null) := by decide +kernel
theorem f223_258 : am_tab 223 258 = some (.invokevirtual 242, 3, 222, 3, 6166, .int 0) := by decide +kernel
theorem f223_261 : am_tab 223 261 = some (.ireturn, 1, 0, 0, 0, .null) := by decide +kernel
theorem f223_262 : am_tab 223 262 = some (.iload_n 2, 1, 0, 0, 0, .null) := by decide +kernel
theorem f223_263 : am_tab 223 263 = some (.ifCond .ne 25, 3, 288, 0, 0, .null) := by decide +kernel
theorem f223_266 : am_tab 223 266 = some (.aload_n 0, 1, 0, 0, 0, .null) := by decide +kernel
theorem f223_267 : am_tab 223 267 = some (.getfield 7, 3, 10, 0, 5028, .null) := by decide +kernel
theorem f223_270 : am_tab 223 270 = some (.sipush 268, 3, 0, 0, 0, .null) := by decide +kernel
theorem f223_273 : am_tab 223 273 = some (.iaload, 1, 0, 0, 0, .null) := by decide +kernel
theorem f223_274 : am_tab 223 274 = some (.bipush 10, 2, 0, 0, 0, .null) := by decide +kernel
theorem f223_276 : am_tab 223 276 = some (.iload_n 3, 1, 0, 0, 0, .null) := by decide +kernel
theorem f223_277 : am_tab 223 277 = some (.imul, 1, 0, 0, 0, .null) := by decide +kernel
theorem f223_278 : am_tab 223 278 = some (.iload 4, 2, 0, 0, 0, .null) := by decide +kernel
theorem f223_280 : am_tab 223 280 = some (.iadd, 1, 0, 0, 0, .null) := by decide +kernel
theorem f223_281 : am_tab 223 281 = some (.if_icmp .gt 7, 3, 288, 0, 0, .null) := by decide +kernel
theorem f223_284 : am_tab 223 284 = some (.iconst 1, 1, 0, 0, 0, .null) := by decide +kernel
theorem f223_285 : am_tab 223 285 = some (.goto 4, 3, 289, 0, 0, .null) := by decide +kernel
theorem f223_288 : am_tab 223 288 = some (.iconst 0, 1, 0, 0, 0, .null) := by decide +kernel
theorem f223_289 : am_tab 223 289 = some (.ireturn, 1, 0, 0, 0, .null) := by decide +kernel
theorem f223_290 : am_tab 223 290 = some (.iconst 0, 1, 0, 0, 0, .null) := by decide +kernel
theorem f223_291 : am_tab 223 291 = some (.ireturn, 1, 0, 0, 0, .null) := by decide +kernel
theorem f224_0 : am_tab 224 0 = some (.iload_n 1, 1, 0, 0, 0, .null) := by decide +kernel
theorem f224_1 : am_tab 224 1 = some (.iconst 3, 1, 0, 0, 0, .null) := by decide +kernel
theorem f224_2 : am_tab 224 2 = some (.if_icmp .ne 9, 3, 11, 0, 0, .null) := by decide +kernel
theorem f224_5 : am_tab 224 5 = some (.ldc2_w 245, 3, 0, 0, 6152, .long (10000000000)) := by decide +kernel
theorem f224_8 : am_tab 224 8 = some (.goto 15, 3, 23, 0, 0, .null) := by decide +kernel
theorem f224_11 : am_tab 224 11 = some (.iload_n 1, 1, 0, 0, 0, .null) := by decide +kernel
theorem f224_12 : am_tab 224 12 = some (.iconst 2, 1, 0, 0, 0, .null) := by decide +kernel
theorem f224_13 : am_tab 224 13 = some (.if_icmp .ne 9, 3, 22, 0, 0, .null) := by decide +kernel
theorem f224_16 : am_tab 224 16 = some (.ldc2_w 247, 3, 0, 0, 6151, .long (100000)) := by decide +kernel
theorem f224_19 : am_tab 224 19 = some (.goto 4, 3, 23, 0, 0, .null) := by decide +kernel
theorem f224_22 : am_tab 224 22 = some (.lconst 1, 1, 0, 0, 0, .null) := by decide +kernel
theorem f224_23 : am_tab 224 23 = some (.lstore 4, 2, 0, 0, 0, .null) := by decide +kernel
theorem f224_25 : am_tab 224 25 = some (.iconst (-1), 1, 0, 0, 0, .null) := by decide +kernel
theorem f224_26 : am_tab 224 26 = some (.istore 6, 2, 0, 0, 0, .null) := by decide +kernel
theorem f224_28 : am_tab 224 28 = some (.iconst 0, 1, 0, 0, 0, .null) := by decide +kernel
theorem f224_29 : am_tab 224 29 = some (.istore 7, 2, 0, 0, 0, .null) := by decide +kernel
theorem f224_31 : am_tab 224 31 = some (.iload 7, 2, 0, 0, 0, .null) := by decide +kernel
theorem f224_33 : am_tab 224 33 = some (.iload_n 1, 1, 0, 0, 0, .null) := by decide +kernel
theorem f224_34 : am_tab 224 34 = some (.if_icmp .ge 76, 3, 110, 0, 0, .null) := by decide +kernel
theorem f224_37 : am_tab 224 37 = some (.iload 6, 2, 0, 0, 0, .null) := by decide +kernel
theorem f224_39 : am_tab 224 39 = some (.iconst (-1), 1, 0, 0, 0, .null) := by decide +kernel
theorem f224_40 : am_tab 224 40 = some (.if_icmp .ne 70, 3, 110, 0, 0, .null) := by decide +kernel
theorem f224_43 : am_tab 224 43 = some (.lload_n 2, 1, 0, 0, 0, .null) := by decide +kernel
theorem f224_44 : am_tab 224 44 = some (.lload 4, 2, 0, 0, 0, .null) := by decide +kernel
theorem f224_46 : am_tab 224 46 = some (.ldiv, 1, 0, 0, 0, .null) := by decide +kernel
theorem f224_47 : am_tab 224 47 = some (.ldc2_w 247, 3, 0, 0, 6151, .long (100000)) := by decide +kernel
theorem f224_50 : am_tab 224 50 = some (.lrem, 1, 0, 0, 0, .null) := by decide +kernel
theorem f224_51 : am_tab 224 51 = some (.l2i, 1, 0, 0, 0, .null) := by decide +kernel
theorem f224_52 : am_tab 224 52 = some (.istore 8, 2, 0, 0, 0, .null) := by decide +kernel
theorem f224_54 : am_tab 224 54 = some (.aload_n 0, 1, 0, 0, 0, .null) := by decide +kernel
theorem f224_55 : am_tab 224 55 = some (.iload 8, 2, 0, 0, 0, .null) := by decide +kernel
theorem f224_57 : am_tab 224 57 = some (.sipush 10000, 3, 0, 0, 0, .null) := by decide +kernel
theorem f224_60 : am_tab 224 60 = some (.idiv, 1, 0, 0, 0, .null) := by decide +kernel
theorem f224_61 : am_tab 224 61 = some (.iload 8, 2, 0, 0, 0, .null) := by decide +kernel
theorem f224_63 : am_tab 224 63 = some (.bipush 100, 2, 0, 0, 0, .null) := by decide +kernel
theorem f224_65 : am_tab 224 65 = some (.idiv, 1, 0, 0, 0, .null) := by decide +kernel
theorem f224_66 : am_tab 224 66 = some (.bipush 100, 2, 0, 0, 0, .null) := by decide +kernel
theorem f224_68 : am_tab 224 68 = some (.irem, 1, 0, 0, 0, .null) := by decide +kernel
theorem f224_69 : am_tab 224 69 = some (.iload 8, 2, 0, 0, 0, .null) := by decide +kernel
theorem f224_71 : am_tab 224 71 = some (.bipush 10, 2, 0, 0, 0, .null) := by decide +kernel
theorem f224_73 : am_tab 224 73 = some (.idiv, 1, 0, 0, 0, .null) := by decide +kernel
theorem f224_74 : am_tab 224 74 = some (.bipush 10, 2, 0, 0, 0, .null) := by decide +kernel
theorem f224_76 : am_tab 224 76 = some (.irem, 1, 0, 0, 0, .null) := by decide +kernel
theorem f224_77 : am_tab 224 77 = some (.iload 8, 2, 0, 0, 0, .null) := by decide +kernel
theorem f224_79 : am_tab 224 79 = some (.bipush 10, 2, 0, 0, 0, .null) := by decide +kernel
theorem f224_81 : am_tab 224 81 = some (.irem, 1, 0, 0, 0, .null) := by decide +kernel
theorem f224_82 : am_tab 224 82 = some (.invokevirtual 249, 3, 223, 5, 6162, .int 0) := by decide +kernel
theorem f224_85 : am_tab 224 85 = some (.ifCond .eq 7, 3, 92, 0, 0, .null) := by decide +kernel
theorem f224_88 : am_tab 224 88 = some (.iconst (-1), 1, 0, 0, 0, .null) := by decide +kernel
theorem f224_89 : am_tab 224 89 = some (.goto 5, 3, 94, 0, 0, .null) := by decide +kernel
theorem f224_92 : am_tab 224 92 = some (.iload 7, 2, 0, 0, 0, .null) := by decide +kernel
theorem f224_94 : am_tab 224 94 = some (.istore 6, 2, 0, 0, 0, .null) := by decide +kernel
theorem f224_96 : am_tab 224 96 = some (.lload 4, 2, 0, 0, 0, .null) := by decide +kernel
theorem f224_98 : am_tab 224 98 = some (.ldc2_w 247, 3, 0, 0, 6151, .long (100000)) := by decide +kernel
theorem f224_101 : am_tab 224 101 = some (.ldiv, 1, 0, 0, 0, .null) := by decide +kernel
theorem f224_102 : am_tab 224 102 = some (.lstore 4, 2, 0, 0, 0, .null) := by decide +kernel
theorem f224_104 : am_tab 224 104 = some (.iinc 7 1, 3, 0, 0, 0, .null) := by decide +kernel
theorem f224_107 : am_tab 224 107 = some (.goto (-76), 3, 31, 0, 0, .null) := by decide +kernel
theorem f224_110 : am_tab 224 110 = some (.iload 6, 2, 0, 0, 0, .null) := by decide +kernel
theorem f224_112 : am_tab 224 112 = some (.ireturn, 1, 0, 0, 0, .null) := by decide +kernel
theorem f225_0 : am_tab 225 0 = some (.aload_n 0, 1, 0, 0, 0, .null) := by decide +kernel
theorem f225_1 : am_tab 225 1 = some (.iconst 0, 1, 0, 0, 0, .null) := by decide +kernel
theorem f225_2 : am_tab 225 2 = some (.putfield 50, 3, 10, 6, 5034, .null) := by decide +kernel
theorem f225_5 : am_tab 225 5 = some (.iload_n 1, 1, 0, 0, 0, .null) := by decide +kernel
theorem f225_6 : am_tab 225 6 = some (.iconst 1, 1, 0, 0, 0, .null) := by decide +kernel
theorem f225_7 : am_tab 225 7 = some (.if_icmp .ne 9, 3, 16, 0, 0, .null) := by decide +kernel
theorem f225_10 : am_tab 225 10 = some (.ldc2_w 247, 3, 0, 0, 6151, .long (100000)) := by decide +kernel
theorem f225_13 : am_tab 225 13 = some (.goto 17, 3, 30, 0, 0, .null) := by decide +kernel
theorem f225_16 : am_tab 225 16 = some (.iload_n 1, 1, 0, 0, 0, .null) := by decide +kernel
theorem f225_17 : am_tab 225 17 = some (.iconst 2, 1, 0, 0, 0, .null) := by decide +kernel
theorem f225_18 : am_tab 225 18 = some (.if_icmp .ne 9, 3, 27, 0, 0, .null) := by decide +kernel
theorem f225_21 : am_tab 225 21 = some (.ldc2_w 245, 3, 0, 0, 6152, .long (10000000000)) := by decide +kernel
theorem f225_24 : am_tab 225 24 = some (.goto 6, 3, 30, 0, 0, .null) := by decide +kernel
theorem f225_27 : am_tab 225 27 = some (.ldc2_w 253, 3, 0, 0, 6153, .long (1000000000000000)) := by decide +kernel
theorem f225_30 : am_tab 225 30 = some (.lstore 4, 2, 0, 0, 0, .null) := by decide +kernel
theorem f225_32 : am_tab 225 32 = some (.iload_n 1, 1, 0, 0, 0, .null) := by decide +kernel
theorem f225_33 : am_tab 225 33 = some (.iconst 1, 1, 0, 0, 0, .null) := by decide +kernel
theorem f225_34 : am_tab 225 34 = some (.iconst 3, 1, 0, 0, 0, .null) := by decide +kernel
theorem f225_35 : am_tab 225 35 = some (.invokestatic 54, 3, 145, 3, 5097, .int 2) := by decide +kernel
theorem f225_38 : am_tab 225 38 = some (.ifCond .eq 16, 3, 54, 0, 0, .null) := by decide +kernel
theorem f225_41 : am_tab 225 41 = some (.lload_n 2, 1, 0, 0, 0, .null) := by decide +kernel
theorem f225_42 : am_tab 225 42 = some (.lconst 0, 1, 0, 0, 0, .null) := by decide +kernel
theorem f225_43 : am_tab 225 43 = some (.lcmp, 1, 0, 0, 0, .null) := by decide +kernel
theorem f225_44 : am_tab 225 44 = some (.ifCond .lt 10, 3, 54, 0, 0, .null) := by decide +kernel
theorem f225_47 : am_tab 225 47 = some (.lload_n 2, 1, 0, 0, 0, .null) := by decide +kernel
theorem f225_48 : am_tab 225 48 = some (.lload 4, 2, 0, 0, 0, .null) := by decide +kernel
theorem f225_50 : am_tab 225 50 = some (.lcmp, 1, 0, 0, 0, .null) := by decide +kernel
theorem f225_51 : am_tab 225 51 = some (.ifCond .lt 9, 3, 60, 0, 0, .null) := by decide +kernel
theorem f225_54 : am_tab 225 54 = some (.aload_n 0, 1, 0, 0, 0, .null) := by decide +kernel
theorem f225_55 : am_tab 225 55 = some (.iconst 1, 1, 0, 0, 0, .null) := by decide +kernel
theorem f225_56 : am_tab 225 56 = some (.invokevirtual 150, 3, 144, 2, 5100, .int 0) := by decide +kernel
theorem f225_59 : am_tab 225 59 = some (.ireturn, 1, 0, 0, 0, .null) := by decide +kernel
theorem f225_60 : am_tab 225 60 = some (.aload_n 0, 1, 0, 0, 0, .null) := by decide +kernel
theorem f225_61 : am_tab 225 61 = some (.invokevirtual 255, 3, 149, 1, 6154, .int 0) := by decide +kernel
theorem f225_64 : am_tab 225 64 = some (.aload_n 0, 1, 0, 0, 0, .null) := by decide +kernel
theorem f225_65 : am_tab 225 65 = some (.iload_n 1, 1, 0, 0, 0, .null) := by decide +kernel
theorem f225_66 : am_tab 225 66 = some (.lload_n 2, 1, 0, 0, 0, .null) := by decide +kernel
theorem f225_67 : am_tab 225 67 = some (.invokevirtual 258, 3, 224, 3, 6158, .int 0) := by decide +kernel
theorem f225_70 : am_tab 225 70 = some (.istore 6, 2, 0, 0, 0, .null) := by decide +kernel
theorem f225_72 : am_tab 225 72 = some (.aload_n 0, 1, 0, 0, 0, .null) := by decide +kernel
theorem f225_73 : am_tab 225 73 = some (.invokevirtual 262, 3, 150, 1, 6170, .int 0) := by decide +kernel
theorem f225_76 : am_tab 225 76 = some (.iload 6, 2, 0, 0, 0, .null) := by decide +kernel
theorem f225_78 : am_tab 225 78 = some (.ireturn, 1, 0, 0, 0, .null) := by decide +kernel
theorem f226_0 : am_tab 226 0 = some (.iload_n 1, 1, 0, 0, 0, .null) := by decide +kernel
theorem f226_1 : am_tab 226 1 = some (.bipush 8, 2, 0, 0, 0, .null) := by decide +kernel
theorem f226_3 : am_tab 226 3 = some (.idiv, 1, 0, 0, 0, .null) := by decide +kernel
theorem f226_4 : am_tab 226 4 = some (.istore_n 2, 1, 0, 0, 0, .null) := by decide +kernel
theorem f226_5 : am_tab 226 5 = some (.iload_n 1, 1, 0, 0, 0, .null) := by decide +kernel
theorem f226_6 : am_tab 226 6 = some (.bipush 8, 2, 0, 0, 0, .null) := by decide +kernel
theorem f226_8 : am_tab 226 8 = some (.irem, 1, 0, 0, 0, .null) := by decide +kernel
theorem f226_9 : am_tab 226 9 = some (.tableswitch 148 0 5 #[39, 39, 62, 80, 105, 111], 39, 0, 0, 0, .null) := by decide +kernel
theorem f226_48 : am_tab 226 48 = some (.aload_n 0, 1, 0, 0, 0, .null) := by decide +kernel
theorem f226_49 : am_tab 226 49 = some (.iload_n 2, 1, 0, 0, 0, .null) := by decide +kernel
theorem f226_50 : am_tab 226 50 = some (.bipush 48, 2, 0, 0, 0, .null) := by decide +kernel
theorem f226_52 : am_tab 226 52 = some (.irem, 1, 0, 0, 0, .null) := by decide +kernel
theorem f226_53 : am_tab 226 53 = some (.iload_n 2, 1, 0, 0, 0, .null) := by decide +kernel
theorem f226_54 : am_tab 226 54 = some (.bipush 48, 2, 0, 0, 0, .null) := by decide +kernel
theorem f226_56 : am_tab 226 56 = some (.idiv, 1, 0, 0, 0, .null) := by decide +kernel
theorem f226_57 : am_tab 226 57 = some (.iconst 3, 1, 0, 0, 0, .null) := by decide +kernel
theorem f226_58 : am_tab 226 58 = some (.irem, 1, 0, 0, 0, .null) := by decide +kernel
theorem f226_59 : am_tab 226 59 = some (.ifCond .eq 7, 3, 66, 0, 0, .null) := by decide +kernel
theorem f226_62 : am_tab 226 62 = some (.iconst 1, 1, 0, 0, 0, .null) := by decide +kernel
theorem f226_63 : am_tab 226 63 = some (.goto 4, 3, 67, 0, 0, .null) := by decide +kernel
theorem f226_66 : am_tab 226 66 = some (.iconst 0, 1, 0, 0, 0, .null) := by decide +kernel
theorem f226_67 : am_tab 226 67 = some (.invokevirtual 186, 3, 159, 3, 5147, .int 0) := by decide +kernel
theorem f226_70 : am_tab 226 70 = some (.ireturn, 1, 0, 0, 0, .null) := by decide +kernel
theorem f226_71 : am_tab 226 71 = some (.aload_n 0, 1, 0, 0, 0, .null) := by decide +kernel
theorem f226_72 : am_tab 226 72 = some (.iload_n 2, 1, 0, 0, 0, .null) := by decide +kernel
theorem f226_73 : am_tab 226 73 = some (.bipush 48, 2, 0, 0, 0, .null) := by decide +kernel
theorem f226_75 : am_tab 226 75 = some (.irem, 1, 0, 0, 0, .null) := by decide +kernel
theorem f226_76 : am_tab 226 76 = some (.iconst 1, 1, 0, 0, 0, .null) := by decide +kernel
theorem f226_77 : am_tab 226 77 = some (.iload_n 2, 1, 0, 0, 0, .null) := by decide +kernel
theorem f226_78 : am_tab 226 78 = some (.bipush 48, 2, 0, 0, 0, .null) := by decide +kernel
theorem f226_80 : am_tab 226 80 = some (.idiv, 1, 0, 0, 0, .null) := by decide +kernel
theorem f226_81 : am_tab 226 81 = some (.bipush 99, 2, 0, 0, 0, .null) := by decide +kernel
theorem f226_83 : am_tab 226 83 = some (.irem, 1, 0, 0, 0, .null) := by decide +kernel
theorem f226_84 : am_tab 226 84 = some (.iadd, 1, 0, 0, 0, .null) := by decide +kernel
theorem f226_85 : am_tab 226 85 = some (.invokevirtual 189, 3, 158, 3, 5154, .int 0) := by decide +kernel
theorem f226_88 : am_tab 226 88 = some (.ireturn, 1, 0, 0, 0, .null) := by decide +kernel
theorem f226_89 : am_tab 226 89 = some (.aload_n 0, 1, 0, 0, 0, .null) := by decide +kernel
theorem f226_90 : am_tab 226 90 = some (.iconst 1, 1, 0, 0, 0, .null) := by decide +kernel
theorem f226_91 : am_tab 226 91 = some (.iload_n 2, 1, 0, 0, 0, .null) := by decide +kernel
theorem f226_92 : am_tab 226 92 = some (.bipush 47, 2, 0, 0, 0, .null) := by decide +kernel
theorem f226_94 : am_tab 226 94 = some (.irem, 1, 0, 0, 0, .null) := by decide +kernel
theorem f226_95 : am_tab 226 95 = some (.iadd, 1, 0, 0, 0, .null) := by decide +kernel
theorem f226_96 : am_tab 226 96 = some (.iload_n 2, 1, 0, 0, 0, .null) := by decide +kernel
theorem f226_97 : am_tab 226 97 = some (.bipush 64, 2, 0, 0, 0, .null) := by decide +kernel
theorem f226_99 : am_tab 226 99 = some (.idiv, 1, 0, 0, 0, .null) := by decide +kernel
theorem f226_100 : am_tab 226 100 = some (.iconst 2, 1, 0, 0, 0, .null) := by decide +kernel
theorem f226_101 : am_tab 226 101 = some (.irem, 1, 0, 0, 0, .null) := by decide +kernel
theorem f226_102 : am_tab 226 102 = some (.ifCond .ne 7, 3, 109, 0, 0, .null) := by decide +kernel
theorem f226_105 : am_tab 226 105 = some (.iconst 1, 1, 0, 0, 0, .null) := by decide +kernel
theorem f226_106 : am_tab 226 106 = some (.goto 4, 3, 110, 0, 0, .null) := by decide +kernel
theorem f226_109 : am_tab 226 109 = some (.iconst 0, 1, 0, 0, 0, .null) := by decide +kernel
theorem f226_110 : am_tab 226 110 = some (.invokevirtual 193, 3, 162, 3, 5158, .int 0) := by decide +kernel
theorem f226_113 : am_tab 226 113 = some (.ireturn, 1, 0, 0, 0, .null) := by decide +kernel
theorem f226_114 : am_tab 226 114 = some (.aload_n 0, 1, 0, 0, 0, .null) := by decide +kernel
theorem f226_115 : am_tab 226 115 = some (.invokevirtual 202, 3, 164, 1, 5198, .int 0) := by decide +kernel
theorem f226_118 : am_tab 226 118 = some (.iconst 1, 1, 0, 0, 0, .null) := by decide +kernel
theorem f226_119 : am_tab 226 119 = some (.ireturn, 1, 0, 0, 0, .null) := by decide +kernel
theorem f226_120 : am_tab 226 120 = some (.iload_n 2, 1, 0, 0, 0, .null) := by decide +kernel
theorem f226_121 : am_tab 226 121 = some (.sipush 128, 3, 0, 0, 0, .null) := by decide +kernel
theorem f226_124 : am_tab 226 124 = some (.idiv, 1, 0, 0, 0, .null) := by decide +kernel
theorem f226_125 : am_tab 226 125 = some (.iconst 2, 1, 0, 0, 0, .null) := by decide +kernel
theorem f226_126 : am_tab 226 126 = some (.irem, 1, 0, 0, 0, .null) := by decide +kernel
theorem f226_127 : am_tab 226 127 = some (.ifCond .ne 22, 3, 149, 0, 0, .null) := by decide +kernel
theorem f226_130 : am_tab 226 130 = some (.aload_n 0, 1, 0, 0, 0, .null) := by decide +kernel
theorem f226_131 : am_tab 226 131 = some (.iload_n 2, 1, 0, 0, 0, .null) := by decide +kernel
theorem f226_132 : am_tab 226 132 = some (.bipush 12, 2, 0, 0, 0, .null) := by decide +kernel
theorem f226_134 : am_tab 226 134 = some (.irem, 1, 0, 0, 0, .null) := by decide +kernel
theorem f226_135 : am_tab 226 135 = some (.iload_n 2, 1, 0, 0, 0, .null) := by decide +kernel
theorem f226_136 : am_tab 226 136 = some (.bipush 16, 2, 0, 0, 0, .null) := by decide +kernel
theorem f226_138 : am_tab 226 138 = some (.idiv, 1, 0, 0, 0, .null) := by decide +kernel
theorem f226_139 : am_tab 226 139 = some (.iconst 5, 1, 0, 0, 0, .null) := by decide +kernel
theorem f226_140 : am_tab 226 140 = some (.irem, 1, 0, 0, 0, .null) := by decide +kernel
theorem f226_141 : am_tab 226 141 = some (.iconst 2, 1, 0, 0, 0, .null) := by decide +kernel
theorem f226_142 : am_tab 226 142 = some (.isub, 1, 0, 0, 0, .null) := by decide +kernel
theorem f226_143 : am_tab 226 143 = some (.invokevirtual 196, 3, 163, 3, 5174, .int 0) := by decide +kernel
theorem f226_146 : am_tab 226 146 = some (.goto 10, 3, 156, 0, 0, .null) := by decide +kernel
theorem f226_149 : am_tab 226 149 = some (.aload_n 0, 1, 0, 0, 0, .null) := by decide +kernel
theorem f226_150 : am_tab 226 150 = some (.iload_n 2, 1, 0, 0, 0, .null) := by decide +kernel
theorem f226_151 : am_tab 226 151 = some (.iconst 2, 1, 0, 0, 0, .null) := by decide +kernel
theorem f226_152 : am_tab 226 152 = some (.irem, 1, 0, 0, 0, .null) := by decide +kernel
theorem f226_153 : am_tab 226 153 = some (.invokevirtual 265, 3, 165, 2, 6188, .int 0) := by decide +kernel
theorem f226_156 : am_tab 226 156 = some (.ireturn, 1, 0, 0, 0, .null) := by decide +kernel
theorem f226_157 : am_tab 226 157 = some (.aload_n 0, 1, 0, 0, 0, .null) := by decide +kernel
theorem f226_158 : am_tab 226 158 = some (.iload_n 2, 1, 0, 0, 0, .null) := by decide +kernel
theorem f226_159 : am_tab 226 159 = some (.iconst 3, 1, 0, 0, 0, .null) := by decide +kernel
theorem f226_160 : am_tab 226 160 = some (.irem, 1, 0, 0, 0, .null) := by decide +kernel
theorem f226_161 : am_tab 226 161 = some (.invokevirtual 205, 3, 166, 2, 5214, .int 0) := by decide +kernel
theorem f226_164 : am_tab 226 164 = some (.ireturn, 1, 0, 0, 0, .null) := by decide +kernel
theorem f227_0 : am_tab 227 0 = some (.lload_n 1, 1, 0, 0, 0, .null) := by decide +kernel
theorem f227_1 : am_tab 227 1 = some (.lstore 4, 2, 0, 0, 0, .null) := by decide +kernel
theorem f227_3 : am_tab 227 3 = some (.aload_n 0, 1, 0, 0, 0, .null) := by decide +kernel
theorem f227_4 : am_tab 227 4 = some (.getfield 7, 3, 10, 0, 5028, .null) := by decide +kernel
theorem f227_7 : am_tab 227 7 = some (.sipush 217, 3, 0, 0, 0, .null) := by decide +kernel
theorem f227_10 : am_tab 227 10 = some (.iaload, 1, 0, 0, 0, .null) := by decide +kernel
theorem f227_11 : am_tab 227 11 = some (.istore 6, 2, 0, 0, 0, .null) := by decide +kernel
theorem f227_13 : am_tab 227 13 = some (.iconst 0, 1, 0, 0, 0, .null) := by decide +kernel
theorem f227_14 : am_tab 227 14 = some (.istore 7, 2, 0, 0, 0, .null) := by decide +kernel
theorem f227_16 : am_tab 227 16 = some (.iconst 0, 1, 0, 0, 0, .null) := by decide +kernel
theorem f227_17 : am_tab 227 17 = some (.istore 8, 2, 0, 0, 0, .null) := by decide +kernel
theorem f227_19 : am_tab 227 19 = some (.iload 8, 2, 0, 0, 0, .null) := by decide +kernel
theorem f227_21 : am_tab 227 21 = some (.iload_n 3, 1, 0, 0, 0, .null) := by decide +kernel
theorem f227_22 : am_tab 227 22 = some (.if_icmp .ge 44, 3, 66, 0, 0, .null) := by decide +kernel
theorem f227_25 : am_tab 227 25 = some (.lload 4, 2, 0, 0, 0, .null) := by decide +kernel
theorem f227_27 : am_tab 227 27 = some (.ldc2_w 268, 3, 0, 0, 6182, .long (6364136223846793005)) := by decide +kernel
theorem f227_30 : am_tab 227 30 = some (.lmul, 1, 0, 0, 0, .null) := by decide +kernel
theorem f227_31 : am_tab 227 31 = some (.ldc2_w 270, 3, 0, 0, 6183, .long (1442695040888963407)) := by decide +kernel
theorem f227_34 : am_tab 227 34 = some (.ladd, 1, 0, 0, 0, .null) := by decide +kernel
theorem f227_35 : am_tab 227 35 = some (.lstore 4, 2, 0, 0, 0, .null) := by decide +kernel
theorem f227_37 : am_tab 227 37 = some (.iload 7, 2, 0, 0, 0, .null) := by decide +kernel
theorem f227_39 : am_tab 227 39 = some (.aload_n 0, 1, 0, 0, 0, .null) := by decide +kernel
theorem f227_40 : am_tab 227 40 = some (.lload 4, 2, 0, 0, 0, .null) := by decide +kernel
theorem f227_42 : am_tab 227 42 = some (.bipush 33, 2, 0, 0, 0, .null) := by decide +kernel
theorem f227_44 : am_tab 227 44 = some (.lushr, 1, 0, 0, 0, .null) := by decide +kernel
theorem f227_45 : am_tab 227 45 = some (.l2i, 1, 0, 0, 0, .null) := by decide +kernel
theorem f227_46 : am_tab 227 46 = some (.invokevirtual 272, 3, 226, 2, 6184, .int 0) := by decide +kernel
theorem f227_49 : am_tab 227 49 = some (.ifCond .eq 7, 3, 56, 0, 0, .null) := by decide +kernel
theorem f227_52 : am_tab 227 52 = some (.iconst 1, 1, 0, 0, 0, .null) := by decide +kernel
theorem f227_53 : am_tab 227 53 = some (.goto 4, 3, 57, 0, 0, .null) := by decide +kernel
theorem f227_56 : am_tab 227 56 = some (.iconst 0, 1, 0, 0, 0, .null) := by decide +kernel
theorem f227_57 : am_tab 227 57 = some (.iadd, 1, 0, 0, 0, .null) := by decide +kernel
theorem f227_58 : am_tab 227 58 = some (.istore 7, 2, 0, 0, 0, .null) := by decide +kernel
theorem f227_60 : am_tab 227 60 = some (.iinc 8 1, 3, 0, 0, 0, .null) := by decide +kernel
theorem f227_63 : am_tab 227 63 = some (.goto (-44), 3, 19, 0, 0, .null) := by decide +kernel
theorem f227_66 : am_tab 227 66 = some (.aload_n 0, 1, 0, 0, 0, .null) := by decide +kernel
theorem f227_67 : am_tab 227 67 = some (.getfield 7, 3, 10, 0, 5028, .null) := by decide +kernel
theorem f227_70 : am_tab 227 70 = some (.sipush 267, 3, 0, 0, 0, .null) := by decide +kernel
theorem f227_73 : am_tab 227 73 = some (.iaload, 1, 0, 0, 0, .null) := by decide +kernel
theorem f227_74 : am_tab 227 74 = some (.bipush 9, 2, 0, 0, 0, .null) := by decide +kernel
theorem f227_76 : am_tab 227 76 = some (.if_icmp .le 8, 3, 84, 0, 0, .null) := by decide +kernel
theorem f227_79 : am_tab 227 79 = some (.bipush 9, 2, 0, 0, 0, .null) := by decide +kernel
theorem f227_81 : am_tab 227 81 = some (.goto 11, 3, 92, 0, 0, .null) := by decide +kernel
theorem f227_84 : am_tab 227 84 = some (.aload_n 0, 1, 0, 0, 0, .null) := by decide +kernel
theorem f227_85 : am_tab 227 85 = some (.getfield 7, 3, 10, 0, 5028, .null) := by decide +kernel
theorem f227_88 : am_tab 227 88 = some (.sipush 267, 3, 0, 0, 0, .null) := by decide +kernel
theorem f227_91 : am_tab 227 91 = some (.iaload, 1, 0, 0, 0, .null) := by decide +kernel
theorem f227_92 : am_tab 227 92 = some (.istore 8, 2, 0, 0, 0, .null) := by decide +kernel
theorem f227_94 : am_tab 227 94 = some (.sipush 1000, 3, 0, 0, 0, .null) := by decide +kernel
theorem f227_97 : am_tab 227 97 = some (.aload_n 0, 1, 0, 0, 0, .null) := by decide +kernel
theorem f227_98 : am_tab 227 98 = some (.getfield 7, 3, 10, 0, 5028, .null) := by decide +kernel
theorem f227_101 : am_tab 227 101 = some (.sipush 217, 3, 0, 0, 0, .null) := by decide +kernel
theorem f227_104 : am_tab 227 104 = some (.iaload, 1, 0, 0, 0, .null) := by decide +kernel
theorem f227_105 : am_tab 227 105 = some (.iload 6, 2, 0, 0, 0, .null) := by decide +kernel
theorem f227_107 : am_tab 227 107 = some (.isub, 1, 0, 0, 0, .null) := by decide +kernel
theorem f227_108 : am_tab 227 108 = some (.imul, 1, 0, 0, 0, .null) := by decide +kernel
theorem f227_109 : am_tab 227 109 = some (.bipush 10, 2, 0, 0, 0, .null) := by decide +kernel
theorem f227_111 : am_tab 227 111 = some (.aload_n 0, 1, 0, 0, 0, .null) := by decide +kernel
theorem f227_112 : am_tab 227 112 = some (.getfield 7, 3, 10, 0, 5028, .null) := by decide +kernel
theorem f227_115 : am_tab 227 115 = some (.sipush 266, 3, 0, 0, 0, .null) := by decide +kernel
theorem f227_118 : am_tab 227 118 = some (.iaload, 1, 0, 0, 0, .null) := by decide +kernel
theorem f227_119 : am_tab 227 119 = some (.imul, 1, 0, 0, 0, .null) := by decide +kernel
theorem f227_120 : am_tab 227 120 = some (.iadd, 1, 0, 0, 0, .null) := by decide +kernel
theorem f227_121 : am_tab 227 121 = some (.iload 8, 2, 0, 0, 0, .null) := by decide +kernel
theorem f227_123 : am_tab 227 123 = some (.iadd, 1, 0, 0, 0, .null) := by decide +kernel
theorem f227_124 : am_tab 227 124 = some (.ireturn, 1, 0, 0, 0, .null) := by decide +kernel
theorem f228_0 : am_tab 228 0 = some (.aload_n 0, 1, 0, 0, 0, .null) := by decide +kernel
theorem f228_1 : am_tab 228 1 = some (.iconst 0, 1, 0, 0, 0, .null) := by decide +kernel
theorem f228_2 : am_tab 228 2 = some (.putfield 50, 3, 10, 6, 5034, .null) := by decide +kernel
theorem f228_5 : am_tab 228 5 = some (.iload_n 3, 1, 0, 0, 0, .null) := by decide +kernel
theorem f228_6 : am_tab 228 6 = some (.iconst 1, 1, 0, 0, 0, .null) := by decide +kernel
theorem f228_7 : am_tab 228 7 = some (.bipush 60, 2, 0, 0, 0, .null) := by decide +kernel
theorem f228_9 : am_tab 228 9 = some (.invokestatic 54, 3, 145, 3, 5097, .int 2) := by decide +kernel
theorem f228_12 : am_tab 228 12 = some (.ifCond .ne 9, 3, 21, 0, 0, .null) := by decide +kernel
theorem f228_15 : am_tab 228 15 = some (.aload_n 0, 1, 0, 0, 0, .null) := by decide +kernel
theorem f228_16 : am_tab 228 16 = some (.iconst 1, 1, 0, 0, 0, .null) := by decide +kernel
theorem f228_17 : am_tab 228 17 = some (.invokevirtual 150, 3, 144, 2, 5100, .int 0) := by decide +kernel
theorem f228_20 : am_tab 228 20 = some (.ireturn, 1, 0, 0, 0, .null) := by decide +kernel
theorem f228_21 : am_tab 228 21 = some (.aload_n 0, 1, 0, 0, 0, .null) := by decide +kernel
theorem f228_22 : am_tab 228 22 = some (.invokevirtual 255, 3, 149, 1, 6154, .int 0) := by decide +kernel
theorem f228_25 : am_tab 228 25 = some (.aload_n 0, 1, 0, 0, 0, .null) := by decide +kernel
theorem f228_26 : am_tab 228 26 = some (.lload_n 1, 1, 0, 0, 0, .null) := by decide +kernel
theorem f228_27 : am_tab 228 27 = some (.iload_n 3, 1, 0, 0, 0, .null) := by decide +kernel
theorem f228_28 : am_tab 228 28 = some (.invokevirtual 275, 3, 227, 3, 6178, .int 0) := by decide +kernel
theorem f228_31 : am_tab 228 31 = some (.istore 4, 2, 0, 0, 0, .null) := by decide +kernel
theorem f228_33 : am_tab 228 33 = some (.aload_n 0, 1, 0, 0, 0, .null) := by decide +kernel
theorem f228_34 : am_tab 228 34 = some (.invokevirtual 262, 3, 150, 1, 6170, .int 0) := by decide +kernel
theorem f228_37 : am_tab 228 37 = some (.iload 4, 2, 0, 0, 0, .null) := by decide +kernel
theorem f228_39 : am_tab 228 39 = some (.ireturn, 1, 0, 0, 0, .null) := by decide +kernel
theorem f229_0 : am_tab 229 0 = some (.aload_n 0, 1, 0, 0, 0, .null) := by decide +kernel
theorem f229_1 : am_tab 229 1 = some (.iconst 0, 1, 0, 0, 0, .null) := by decide +kernel
theorem f229_2 : am_tab 229 2 = some (.putfield 50, 3, 10, 6, 5034, .null) := by decide +kernel
theorem f229_5 : am_tab 229 5 = some (.iload_n 1, 1, 0, 0, 0, .null) := by decide +kernel
theorem f229_6 : am_tab 229 6 = some (.iconst 0, 1, 0, 0, 0, .null) := by decide +kernel
theorem f229_7 : am_tab 229 7 = some (.iconst 1, 1, 0, 0, 0, .null) := by decide +kernel
theorem f229_8 : am_tab 229 8 = some (.invokestatic 54, 3, 145, 3, 5097, .int 2) := by decide +kernel
theorem f229_11 : am_tab 229 11 = some (.ifCond .ne 9, 3, 20, 0, 0, .null) := by decide +kernel
theorem f229_14 : am_tab 229 14 = some (.aload_n 0, 1, 0, 0, 0, .null) := by decide +kernel
theorem f229_15 : am_tab 229 15 = some (.iconst 1, 1, 0, 0, 0, .null) := by decide +kernel
theorem f229_16 : am_tab 229 16 = some (.invokevirtual 150, 3, 144, 2, 5100, .int 0) := by decide +kernel
theorem f229_19 : am_tab 229 19 = some (.ireturn, 1, 0, 0, 0, .null) := by decide +kernel
theorem f229_20 : am_tab 229 20 = some (.iconst 0, 1, 0, 0, 0, .null) := by decide +kernel
theorem f229_21 : am_tab 229 21 = some (.istore_n 2, 1, 0, 0, 0, .null) := by decide +kernel
theorem f229_22 : am_tab 229 22 = some (.iload_n 2, 1, 0, 0, 0, .null) := by decide +kernel
theorem f229_23 : am_tab 229 23 = some (.sipush 270, 3, 0, 0, 0, .null) := by decide +kernel
theorem f229_26 : am_tab 229 26 = some (.if_icmp .ge 27, 3, 53, 0, 0, .null) := by decide +kernel
theorem f229_29 : am_tab 229 29 = some (.aload_n 0, 1, 0, 0, 0, .null) := by decide +kernel
theorem f229_30 : am_tab 229 30 = some (.getfield 16, 3, 10, 3, 5031, .null) := by decide +kernel
theorem f229_33 : am_tab 229 33 = some (.sipush 270, 3, 0, 0, 0, .null) := by decide +kernel
theorem f229_36 : am_tab 229 36 = some (.iload_n 1, 1, 0, 0, 0, .null) := by decide +kernel
theorem f229_37 : am_tab 229 37 = some (.imul, 1, 0, 0, 0, .null) := by decide +kernel
theorem f229_38 : am_tab 229 38 = some (.iload_n 2, 1, 0, 0, 0, .null) := by decide +kernel
theorem f229_39 : am_tab 229 39 = some (.iadd, 1, 0, 0, 0, .null) := by decide +kernel
theorem f229_40 : am_tab 229 40 = some (.aload_n 0, 1, 0, 0, 0, .null) := by decide +kernel
theorem f229_41 : am_tab 229 41 = some (.getfield 7, 3, 10, 0, 5028, .null) := by decide +kernel
theorem f229_44 : am_tab 229 44 = some (.iload_n 2, 1, 0, 0, 0, .null) := by decide +kernel
theorem f229_45 : am_tab 229 45 = some (.iaload, 1, 0, 0, 0, .null) := by decide +kernel
theorem f229_46 : am_tab 229 46 = some (.iastore, 1, 0, 0, 0, .null) := by decide +kernel
theorem f229_47 : am_tab 229 47 = some (.iinc 2 1, 3, 0, 0, 0, .null) := by decide +kernel
theorem f229_50 : am_tab 229 50 = some (.goto (-28), 3, 22, 0, 0, .null) := by decide +kernel
theorem f229_53 : am_tab 229 53 = some (.aload_n 0, 1, 0, 0, 0, .null) := by decide +kernel
theorem f229_54 : am_tab 229 54 = some (.getfield 19, 3, 10, 4, 5032, .null) := by decide +kernel
theorem f229_57 : am_tab 229 57 = some (.iload_n 1, 1, 0, 0, 0, .null) := by decide +kernel
theorem f229_58 : am_tab 229 58 = some (.iconst 1, 1, 0, 0, 0, .null) := by decide +kernel
theorem f229_59 : am_tab 229 59 = some (.bastore, 1, 0, 0, 0, .null) := by decide +kernel
theorem f229_60 : am_tab 229 60 = some (.aload_n 0, 1, 0, 0, 0, .null) := by decide +kernel
theorem f229_61 : am_tab 229 61 = some (.invokevirtual 61, 3, 151, 1, 5166, .int 0) := by decide +kernel
theorem f229_64 : am_tab 229 64 = some (.ireturn, 1, 0, 0, 0, .null) := by decide +kernel
theorem f230_0 : am_tab 230 0 = some (.aload_n 0, 1, 0, 0, 0, .null) := by decide +kernel
theorem f230_1 : am_tab 230 1 = some (.iconst 0, 1, 0, 0, 0, .null) := by decide +kernel
theorem f230_2 : am_tab 230 2 = some (.putfield 50, 3, 10, 6, 5034, .null) := by decide +kernel
theorem f230_5 : am_tab 230 5 = some (.iload_n 1, 1, 0, 0, 0, .null) := by decide +kernel
theorem f230_6 : am_tab 230 6 = some (.iconst 0, 1, 0, 0, 0, .null) := by decide +kernel
theorem f230_7 : am_tab 230 7 = some (.iconst 1, 1, 0, 0, 0, .null) := by decide +kernel
theorem f230_8 : am_tab 230 8 = some (.invokestatic 54, 3, 145, 3, 5097, .int 2) := by decide +kernel
theorem f230_11 : am_tab 230 11 = some (.ifCond .ne 9, 3, 20, 0, 0, .null) := by decide +kernel
theorem f230_14 : am_tab 230 14 = some (.aload_n 0, 1, 0, 0, 0, .null) := by decide +kernel
theorem f230_15 : am_tab 230 15 = some (.iconst 1, 1, 0, 0, 0, .null) := by decide +kernel
theorem f230_16 : am_tab 230 16 = some (.invokevirtual 150, 3, 144, 2, 5100, .int 0) := by decide +kernel
theorem f230_19 : am_tab 230 19 = some (.ireturn, 1, 0, 0, 0, .null) := by decide +kernel
theorem f230_20 : am_tab 230 20 = some (.aload_n 0, 1, 0, 0, 0, .null) := by decide +kernel
theorem f230_21 : am_tab 230 21 = some (.getfield 19, 3, 10, 4, 5032, .null) := by decide +kernel
theorem f230_24 : am_tab 230 24 = some (.iload_n 1, 1, 0, 0, 0, .null) := by decide +kernel
theorem f230_25 : am_tab 230 25 = some (.baload, 1, 0, 0, 0, .null) := by decide +kernel
theorem f230_26 : am_tab 230 26 = some (.ifCond .ne 9, 3, 35, 0, 0, .null) := by decide +kernel
theorem f230_29 : am_tab 230 29 = some (.aload_n 0, 1, 0, 0, 0, .null) := by decide +kernel
theorem f230_30 : am_tab 230 30 = some (.iconst 2, 1, 0, 0, 0, .null) := by decide +kernel
theorem f230_31 : am_tab 230 31 = some (.invokevirtual 150, 3, 144, 2, 5100, .int 0) := by decide +kernel
theorem f230_34 : am_tab 230 34 = some (.ireturn, 1, 0, 0, 0, .null) := by decide +kernel
theorem f230_35 : am_tab 230 35 = some (.iconst 0, 1, 0, 0, 0, .null) := by decide +kernel
theorem f230_36 : am_tab 230 36 = some (.istore_n 2, 1, 0, 0, 0, .null) := by decide +kernel
theorem f230_37 : am_tab 230 37 = some (.iload_n 2, 1, 0, 0, 0, .null) := by decide +kernel
theorem f230_38 : am_tab 230 38 = some (.sipush 270, 3, 0, 0, 0, .null) := by decide +kernel
theorem f230_41 : am_tab 230 41 = some (.if_icmp .ge 27, 3, 68, 0, 0, .null) := by decide +kernel
theorem f230_44 : am_tab 230 44 = some (.aload_n 0, 1, 0, 0, 0, .null) := by decide +kernel
theorem f230_45 : am_tab 230 45 = some (.getfield 7, 3, 10, 0, 5028, .null) := by decide +kernel
theorem f230_48 : am_tab 230 48 = some (.iload_n 2, 1, 0, 0, 0, .null) := by decide +kernel
theorem f230_49 : am_tab 230 49 = some (.aload_n 0, 1, 0, 0, 0, .null) := by decide +kernel
theorem f230_50 : am_tab 230 50 = some (.getfield 16, 3, 10, 3, 5031, .null) := by decide +kernel
theorem f230_53 : am_tab 230 53 = some (.sipush 270, 3, 0, 0, 0, .null) := by decide +kernel
theorem f230_56 : am_tab 230 56 = some (.iload_n 1, 1, 0, 0, 0, .null) := by decide +kernel
theorem f230_57 : am_tab 230 57 = some (.imul, 1, 0, 0, 0, .null) := by decide +kernel
theorem f230_58 : am_tab 230 58 = some (.iload_n 2, 1, 0, 0, 0, .null) := by decide +kernel
theorem f230_59 : am_tab 230 59 = some (.iadd, 1, 0, 0, 0, .null) := by decide +kernel
theorem f230_60 : am_tab 230 60 = some (.iaload, 1, 0, 0, 0, .null) := by decide +kernel
theorem f230_61 : am_tab 230 61 = some (.iastore, 1, 0, 0, 0, .null) := by decide +kernel
theorem f230_62 : am_tab 230 62 = some (.iinc 2 1, 3, 0, 0, 0, .null) := by decide +kernel
theorem f230_65 : am_tab 230 65 = some (.goto (-28), 3, 37, 0, 0, .null) := by decide +kernel
theorem f230_68 : am_tab 230 68 = some (.aload_n 0, 1, 0, 0, 0, .null) := by decide +kernel
theorem f230_69 : am_tab 230 69 = some (.iconst 0, 1, 0, 0, 0, .null) := by decide +kernel
theorem f230_70 : am_tab 230 70 = some (.putfield 58, 3, 10, 2, 5030, .null) := by decide +kernel
theorem f230_73 : am_tab 230 73 = some (.aload_n 0, 1, 0, 0, 0, .null) := by decide +kernel
theorem f230_74 : am_tab 230 74 = some (.invokevirtual 61, 3, 151, 1, 5166, .int 0) := by decide +kernel
theorem f230_77 : am_tab 230 77 = some (.ireturn, 1, 0, 0, 0, .null) := by decide +kernel
theorem f231_0 : am_tab 231 0 = some (.lload_n 0, 1, 0, 0, 0, .null) := by decide +kernel
theorem f231_1 : am_tab 231 1 = some (.lload_n 0, 1, 0, 0, 0, .null) := by decide +kernel
theorem f231_2 : am_tab 231 2 = some (.iconst 1, 1, 0, 0, 0, .null) := by decide +kernel
theorem f231_3 : am_tab 231 3 = some (.lushr, 1, 0, 0, 0, .null) := by decide +kernel
theorem f231_4 : am_tab 231 4 = some (.ldc2_w 314, 3, 0, 0, 2109, .long (6148914691236517205)) := by decide +kernel
theorem f231_7 : am_tab 231 7 = some (.land, 1, 0, 0, 0, .null) := by decide +kernel
theorem f231_8 : am_tab 231 8 = some (.lsub, 1, 0, 0, 0, .null) := by decide +kernel
theorem f231_9 : am_tab 231 9 = some (.lstore_n 0, 1, 0, 0, 0, .null) := by decide +kernel
theorem f231_10 : am_tab 231 10 = some (.lload_n 0, 1, 0, 0, 0, .null) := by decide +kernel
theorem f231_11 : am_tab 231 11 = some (.ldc2_w 316, 3, 0, 0, 2110, .long (3689348814741910323)) := by decide +kernel
theorem f231_14 : am_tab 231 14 = some (.land, 1, 0, 0, 0, .null) := by decide +kernel
theorem f231_15 : am_tab 231 15 = some (.lload_n 0, 1, 0, 0, 0, .null) := by decide +kernel
theorem f231_16 : am_tab 231 16 = some (.iconst 2, 1, 0, 0, 0, .null) := by decide +kernel
theorem f231_17 : am_tab 231 17 = some (.lushr, 1, 0, 0, 0, .null) := by decide +kernel
theorem f231_18 : am_tab 231 18 = some (.ldc2_w 316, 3, 0, 0, 2110, .long (3689348814741910323)) := by decide +kernel
theorem f231_21 : am_tab 231 21 = some (.land, 1, 0, 0, 0, .null) := by decide +kernel
theorem f231_22 : am_tab 231 22 = some (.ladd, 1, 0, 0, 0, .null) := by decide +kernel
theorem f231_23 : am_tab 231 23 = some (.lstore_n 0, 1, 0, 0, 0, .null) := by decide +kernel
theorem f231_24 : am_tab 231 24 = some (.lload_n 0, 1, 0, 0, 0, .null) := by decide +kernel
theorem f231_25 : am_tab 231 25 = some (.lload_n 0, 1, 0, 0, 0, .null) := by decide +kernel
theorem f231_26 : am_tab 231 26 = some (.iconst 4, 1, 0, 0, 0, .null) := by decide +kernel
theorem f231_27 : am_tab 231 27 = some (.lushr, 1, 0, 0, 0, .null) := by decide +kernel
theorem f231_28 : am_tab 231 28 = some (.ladd, 1, 0, 0, 0, .null) := by decide +kernel
theorem f231_29 : am_tab 231 29 = some (.ldc2_w 318, 3, 0, 0, 2111, .long (1085102592571150095)) := by decide +kernel
theorem f231_32 : am_tab 231 32 = some (.land, 1, 0, 0, 0, .null) := by decide +kernel
theorem f231_33 : am_tab 231 33 = some (.lstore_n 0, 1, 0, 0, 0, .null) := by decide +kernel
theorem f231_34 : am_tab 231 34 = some (.lload_n 0, 1, 0, 0, 0, .null) := by decide +kernel
theorem f231_35 : am_tab 231 35 = some (.lload_n 0, 1, 0, 0, 0, .null) := by decide +kernel
theorem f231_36 : am_tab 231 36 = some (.bipush 8, 2, 0, 0, 0, .null) := by decide +kernel
theorem f231_38 : am_tab 231 38 = some (.lushr, 1, 0, 0, 0, .null) := by decide +kernel
theorem f231_39 : am_tab 231 39 = some (.ladd, 1, 0, 0, 0, .null) := by decide +kernel
theorem f231_40 : am_tab 231 40 = some (.lstore_n 0, 1, 0, 0, 0, .null) := by decide +kernel
theorem f231_41 : am_tab 231 41 = some (.lload_n 0, 1, 0, 0, 0, .null) := by decide +kernel
theorem f231_42 : am_tab 231 42 = some (.lload_n 0, 1, 0, 0, 0, .null) := by decide +kernel
theorem f231_43 : am_tab 231 43 = some (.bipush 16, 2, 0, 0, 0, .null) := by decide +kernel
theorem f231_45 : am_tab 231 45 = some (.lushr, 1, 0, 0, 0, .null) := by decide +kernel
theorem f231_46 : am_tab 231 46 = some (.ladd, 1, 0, 0, 0, .null) := by decide +kernel
theorem f231_47 : am_tab 231 47 = some (.lstore_n 0, 1, 0, 0, 0, .null) := by decide +kernel
theorem f231_48 : am_tab 231 48 = some (.lload_n 0, 1, 0, 0, 0, .null) := by decide +kernel
theorem f231_49 : am_tab 231 49 = some (.lload_n 0, 1, 0, 0, 0, .null) := by decide +kernel
theorem f231_50 : am_tab 231 50 = some (.bipush 32, 2, 0, 0, 0, .null) := by decide +kernel
theorem f231_52 : am_tab 231 52 = some (.lushr, 1, 0, 0, 0, .null) := by decide +kernel
theorem f231_53 : am_tab 231 53 = some (.ladd, 1, 0, 0, 0, .null) := by decide +kernel
theorem f231_54 : am_tab 231 54 = some (.lstore_n 0, 1, 0, 0, 0, .null) := by decide +kernel
theorem f231_55 : am_tab 231 55 = some (.lload_n 0, 1, 0, 0, 0, .null) := by decide +kernel
theorem f231_56 : am_tab 231 56 = some (.l2i, 1, 0, 0, 0, .null) := by decide +kernel
theorem f231_57 : am_tab 231 57 = some (.bipush 127, 2, 0, 0, 0, .null) := by decide +kernel
theorem f231_59 : am_tab 231 59 = some (.iand, 1, 0, 0, 0, .null) := by decide +kernel
theorem f231_60 : am_tab 231 60 = some (.ireturn, 1, 0, 0, 0, .null) := by decide +kernel
