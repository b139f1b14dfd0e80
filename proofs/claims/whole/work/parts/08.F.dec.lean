theorem dL_speech_0 : decode bL_speech.2.1 0 = .ok (.aload_n 3, 1) := by decide +kernel
theorem dL_speech_1 : decode bL_speech.2.1 1 = .ok (.iconst 0, 1) := by decide +kernel
theorem dL_speech_2 : decode bL_speech.2.1 2 = .ok (.aload_n 0, 1) := by decide +kernel
theorem dL_speech_3 : decode bL_speech.2.1 3 = .ok (.iload_n 1, 1) := by decide +kernel
theorem dL_speech_4 : decode bL_speech.2.1 4 = .ok (.iload_n 2, 1) := by decide +kernel
theorem dL_speech_5 : decode bL_speech.2.1 5 = .ok (.invokevirtual 7, 3) := by decide +kernel
theorem dL_speech_8 : decode bL_speech.2.1 8 = .ok (.i2l, 1) := by decide +kernel
theorem dL_speech_9 : decode bL_speech.2.1 9 = .ok (.lastore, 1) := by decide +kernel
theorem dL_speech_10 : decode bL_speech.2.1 10 = .ok (.goto 7, 3) := by decide +kernel
theorem dL_speech_13 : decode bL_speech.2.1 13 = .ok (.astore 4, 2) := by decide +kernel
theorem dL_speech_15 : decode bL_speech.2.1 15 = .ok (.iconst 1, 1) := by decide +kernel
theorem dL_speech_16 : decode bL_speech.2.1 16 = .ok (.ireturn, 1) := by decide +kernel
theorem dL_speech_17 : decode bL_speech.2.1 17 = .ok (.iconst 0, 1) := by decide +kernel
theorem dL_speech_18 : decode bL_speech.2.1 18 = .ok (.ireturn, 1) := by decide +kernel
theorem dL_law_0 : decode bL_law.2.1 0 = .ok (.new 8, 3) := by decide +kernel
theorem dL_law_3 : decode bL_law.2.1 3 = .ok (.dup, 1) := by decide +kernel
theorem dL_law_4 : decode bL_law.2.1 4 = .ok (.invokespecial 15, 3) := by decide +kernel
theorem dL_law_7 : decode bL_law.2.1 7 = .ok (.astore_n 1, 1) := by decide +kernel
theorem dL_law_8 : decode bL_law.2.1 8 = .ok (.new 16, 3) := by decide +kernel
theorem dL_law_11 : decode bL_law.2.1 11 = .ok (.dup, 1) := by decide +kernel
theorem dL_law_12 : decode bL_law.2.1 12 = .ok (.invokespecial 18, 3) := by decide +kernel
theorem dL_law_15 : decode bL_law.2.1 15 = .ok (.astore_n 2, 1) := by decide +kernel
theorem dL_law_16 : decode bL_law.2.1 16 = .ok (.iconst 1, 1) := by decide +kernel
theorem dL_law_17 : decode bL_law.2.1 17 = .ok (.newarray .long, 2) := by decide +kernel
theorem dL_law_19 : decode bL_law.2.1 19 = .ok (.astore_n 3, 1) := by decide +kernel
theorem dL_law_20 : decode bL_law.2.1 20 = .ok (.iconst 0, 1) := by decide +kernel
theorem dL_law_21 : decode bL_law.2.1 21 = .ok (.istore 4, 2) := by decide +kernel
theorem dL_law_23 : decode bL_law.2.1 23 = .ok (.iload 4, 2) := by decide +kernel
theorem dL_law_25 : decode bL_law.2.1 25 = .ok (.aload_n 0, 1) := by decide +kernel
theorem dL_law_26 : decode bL_law.2.1 26 = .ok (.arraylength, 1) := by decide +kernel
theorem dL_law_27 : decode bL_law.2.1 27 = .ok (.bipush 6, 2) := by decide +kernel
theorem dL_law_29 : decode bL_law.2.1 29 = .ok (.isub, 1) := by decide +kernel
theorem dL_law_30 : decode bL_law.2.1 30 = .ok (.if_icmp .gt 1389, 3) := by decide +kernel
theorem dL_law_33 : decode bL_law.2.1 33 = .ok (.aload_n 0, 1) := by decide +kernel
theorem dL_law_34 : decode bL_law.2.1 34 = .ok (.iload 4, 2) := by decide +kernel
theorem dL_law_36 : decode bL_law.2.1 36 = .ok (.iaload, 1) := by decide +kernel
theorem dL_law_37 : decode bL_law.2.1 37 = .ok (.bipush 63, 2) := by decide +kernel
theorem dL_law_39 : decode bL_law.2.1 39 = .ok (.iand, 1) := by decide +kernel
theorem dL_law_40 : decode bL_law.2.1 40 = .ok (.tableswitch 1373 0 36 #[164, 237, 262, 287, 312, 380, 405, 454, 507, 532, 569, 606, 663, 688, 713, 738, 763, 776, 801, 826, 851, 888, 913, 962, 999, 1024, 1049, 1086, 1123, 1160, 1197, 1235, 1272, 1297, 1322, 1335, 1348], 164) := by decide +kernel
theorem dL_law_204 : decode bL_law.2.1 204 = .ok (.aload_n 1, 1) := by decide +kernel
theorem dL_law_205 : decode bL_law.2.1 205 = .ok (.aload_n 0, 1) := by decide +kernel
theorem dL_law_206 : decode bL_law.2.1 206 = .ok (.iload 4, 2) := by decide +kernel
theorem dL_law_208 : decode bL_law.2.1 208 = .ok (.iconst 1, 1) := by decide +kernel
theorem dL_law_209 : decode bL_law.2.1 209 = .ok (.iadd, 1) := by decide +kernel
theorem dL_law_210 : decode bL_law.2.1 210 = .ok (.iaload, 1) := by decide +kernel
theorem dL_law_211 : decode bL_law.2.1 211 = .ok (.aload_n 0, 1) := by decide +kernel
theorem dL_law_212 : decode bL_law.2.1 212 = .ok (.iload 4, 2) := by decide +kernel
theorem dL_law_214 : decode bL_law.2.1 214 = .ok (.iconst 2, 1) := by decide +kernel
theorem dL_law_215 : decode bL_law.2.1 215 = .ok (.iadd, 1) := by decide +kernel
theorem dL_law_216 : decode bL_law.2.1 216 = .ok (.iaload, 1) := by decide +kernel
theorem dL_law_217 : decode bL_law.2.1 217 = .ok (.aload_n 0, 1) := by decide +kernel
theorem dL_law_218 : decode bL_law.2.1 218 = .ok (.iload 4, 2) := by decide +kernel
theorem dL_law_220 : decode bL_law.2.1 220 = .ok (.iconst 3, 1) := by decide +kernel
theorem dL_law_221 : decode bL_law.2.1 221 = .ok (.iadd, 1) := by decide +kernel
theorem dL_law_222 : decode bL_law.2.1 222 = .ok (.iaload, 1) := by decide +kernel
theorem dL_law_223 : decode bL_law.2.1 223 = .ok (.aload_n 0, 1) := by decide +kernel
theorem dL_law_224 : decode bL_law.2.1 224 = .ok (.iload 4, 2) := by decide +kernel
theorem dL_law_226 : decode bL_law.2.1 226 = .ok (.iconst 4, 1) := by decide +kernel
theorem dL_law_227 : decode bL_law.2.1 227 = .ok (.iadd, 1) := by decide +kernel
theorem dL_law_228 : decode bL_law.2.1 228 = .ok (.iaload, 1) := by decide +kernel
theorem dL_law_229 : decode bL_law.2.1 229 = .ok (.aload_n 0, 1) := by decide +kernel
theorem dL_law_230 : decode bL_law.2.1 230 = .ok (.iload 4, 2) := by decide +kernel
theorem dL_law_232 : decode bL_law.2.1 232 = .ok (.iconst 5, 1) := by decide +kernel
theorem dL_law_233 : decode bL_law.2.1 233 = .ok (.iadd, 1) := by decide +kernel
theorem dL_law_234 : decode bL_law.2.1 234 = .ok (.iaload, 1) := by decide +kernel
theorem dL_law_235 : decode bL_law.2.1 235 = .ok (.invokevirtual 19, 3) := by decide +kernel
theorem dL_law_238 : decode bL_law.2.1 238 = .ok (.aload_n 2, 1) := by decide +kernel
theorem dL_law_239 : decode bL_law.2.1 239 = .ok (.aload_n 0, 1) := by decide +kernel
theorem dL_law_240 : decode bL_law.2.1 240 = .ok (.iload 4, 2) := by decide +kernel
theorem dL_law_242 : decode bL_law.2.1 242 = .ok (.iconst 1, 1) := by decide +kernel
theorem dL_law_243 : decode bL_law.2.1 243 = .ok (.iadd, 1) := by decide +kernel
theorem dL_law_244 : decode bL_law.2.1 244 = .ok (.iaload, 1) := by decide +kernel
theorem dL_law_245 : decode bL_law.2.1 245 = .ok (.aload_n 0, 1) := by decide +kernel
theorem dL_law_246 : decode bL_law.2.1 246 = .ok (.iload 4, 2) := by decide +kernel
theorem dL_law_248 : decode bL_law.2.1 248 = .ok (.iconst 2, 1) := by decide +kernel
theorem dL_law_249 : decode bL_law.2.1 249 = .ok (.iadd, 1) := by decide +kernel
theorem dL_law_250 : decode bL_law.2.1 250 = .ok (.iaload, 1) := by decide +kernel
theorem dL_law_251 : decode bL_law.2.1 251 = .ok (.aload_n 0, 1) := by decide +kernel
theorem dL_law_252 : decode bL_law.2.1 252 = .ok (.iload 4, 2) := by decide +kernel
theorem dL_law_254 : decode bL_law.2.1 254 = .ok (.iconst 3, 1) := by decide +kernel
theorem dL_law_255 : decode bL_law.2.1 255 = .ok (.iadd, 1) := by decide +kernel
theorem dL_law_256 : decode bL_law.2.1 256 = .ok (.iaload, 1) := by decide +kernel
theorem dL_law_257 : decode bL_law.2.1 257 = .ok (.aload_n 0, 1) := by decide +kernel
theorem dL_law_258 : decode bL_law.2.1 258 = .ok (.iload 4, 2) := by decide +kernel
theorem dL_law_260 : decode bL_law.2.1 260 = .ok (.iconst 4, 1) := by decide +kernel
theorem dL_law_261 : decode bL_law.2.1 261 = .ok (.iadd, 1) := by decide +kernel
theorem dL_law_262 : decode bL_law.2.1 262 = .ok (.iaload, 1) := by decide +kernel
theorem dL_law_263 : decode bL_law.2.1 263 = .ok (.aload_n 0, 1) := by decide +kernel
theorem dL_law_264 : decode bL_law.2.1 264 = .ok (.iload 4, 2) := by decide +kernel
theorem dL_law_266 : decode bL_law.2.1 266 = .ok (.iconst 5, 1) := by decide +kernel
theorem dL_law_267 : decode bL_law.2.1 267 = .ok (.iadd, 1) := by decide +kernel
theorem dL_law_268 : decode bL_law.2.1 268 = .ok (.iaload, 1) := by decide +kernel
theorem dL_law_269 : decode bL_law.2.1 269 = .ok (.invokevirtual 23, 3) := by decide +kernel
theorem dL_law_272 : decode bL_law.2.1 272 = .ok (.if_icmp .eq 1141, 3) := by decide +kernel
theorem dL_law_275 : decode bL_law.2.1 275 = .ok (.iconst 0, 1) := by decide +kernel
theorem dL_law_276 : decode bL_law.2.1 276 = .ok (.ireturn, 1) := by decide +kernel
theorem dL_law_277 : decode bL_law.2.1 277 = .ok (.aload_n 1, 1) := by decide +kernel
theorem dL_law_278 : decode bL_law.2.1 278 = .ok (.aload_n 0, 1) := by decide +kernel
theorem dL_law_279 : decode bL_law.2.1 279 = .ok (.iload 4, 2) := by decide +kernel
theorem dL_law_281 : decode bL_law.2.1 281 = .ok (.iconst 1, 1) := by decide +kernel
theorem dL_law_282 : decode bL_law.2.1 282 = .ok (.iadd, 1) := by decide +kernel
theorem dL_law_283 : decode bL_law.2.1 283 = .ok (.iaload, 1) := by decide +kernel
theorem dL_law_284 : decode bL_law.2.1 284 = .ok (.invokevirtual 24, 3) := by decide +kernel
theorem dL_law_287 : decode bL_law.2.1 287 = .ok (.aload_n 2, 1) := by decide +kernel
theorem dL_law_288 : decode bL_law.2.1 288 = .ok (.aload_n 0, 1) := by decide +kernel
theorem dL_law_289 : decode bL_law.2.1 289 = .ok (.iload 4, 2) := by decide +kernel
theorem dL_law_291 : decode bL_law.2.1 291 = .ok (.iconst 1, 1) := by decide +kernel
theorem dL_law_292 : decode bL_law.2.1 292 = .ok (.iadd, 1) := by decide +kernel
theorem dL_law_293 : decode bL_law.2.1 293 = .ok (.iaload, 1) := by decide +kernel
theorem dL_law_294 : decode bL_law.2.1 294 = .ok (.invokevirtual 28, 3) := by decide +kernel
theorem dL_law_297 : decode bL_law.2.1 297 = .ok (.if_icmp .eq 1116, 3) := by decide +kernel
theorem dL_law_300 : decode bL_law.2.1 300 = .ok (.iconst 0, 1) := by decide +kernel
theorem dL_law_301 : decode bL_law.2.1 301 = .ok (.ireturn, 1) := by decide +kernel
theorem dL_law_302 : decode bL_law.2.1 302 = .ok (.aload_n 1, 1) := by decide +kernel
theorem dL_law_303 : decode bL_law.2.1 303 = .ok (.aload_n 0, 1) := by decide +kernel
theorem dL_law_304 : decode bL_law.2.1 304 = .ok (.iload 4, 2) := by decide +kernel
theorem dL_law_306 : decode bL_law.2.1 306 = .ok (.iconst 1, 1) := by decide +kernel
theorem dL_law_307 : decode bL_law.2.1 307 = .ok (.iadd, 1) := by decide +kernel
theorem dL_law_308 : decode bL_law.2.1 308 = .ok (.iaload, 1) := by decide +kernel
theorem dL_law_309 : decode bL_law.2.1 309 = .ok (.invokevirtual 29, 3) := by decide +kernel
theorem dL_law_312 : decode bL_law.2.1 312 = .ok (.aload_n 2, 1) := by decide +kernel
theorem dL_law_313 : decode bL_law.2.1 313 = .ok (.aload_n 0, 1) := by decide +kernel
theorem dL_law_314 : decode bL_law.2.1 314 = .ok (.iload 4, 2) := by decide +kernel
theorem dL_law_316 : decode bL_law.2.1 316 = .ok (.iconst 1, 1) := by decide +kernel
theorem dL_law_317 : decode bL_law.2.1 317 = .ok (.iadd, 1) := by decide +kernel
theorem dL_law_318 : decode bL_law.2.1 318 = .ok (.iaload, 1) := by decide +kernel
theorem dL_law_319 : decode bL_law.2.1 319 = .ok (.invokevirtual 33, 3) := by decide +kernel
theorem dL_law_322 : decode bL_law.2.1 322 = .ok (.if_icmp .eq 1091, 3) := by decide +kernel
theorem dL_law_325 : decode bL_law.2.1 325 = .ok (.iconst 0, 1) := by decide +kernel
theorem dL_law_326 : decode bL_law.2.1 326 = .ok (.ireturn, 1) := by decide +kernel
theorem dL_law_327 : decode bL_law.2.1 327 = .ok (.aload_n 1, 1) := by decide +kernel
theorem dL_law_328 : decode bL_law.2.1 328 = .ok (.aload_n 0, 1) := by decide +kernel
theorem dL_law_329 : decode bL_law.2.1 329 = .ok (.iload 4, 2) := by decide +kernel
theorem dL_law_331 : decode bL_law.2.1 331 = .ok (.iconst 1, 1) := by decide +kernel
theorem dL_law_332 : decode bL_law.2.1 332 = .ok (.iadd, 1) := by decide +kernel
theorem dL_law_333 : decode bL_law.2.1 333 = .ok (.iaload, 1) := by decide +kernel
theorem dL_law_334 : decode bL_law.2.1 334 = .ok (.invokevirtual 34, 3) := by decide +kernel
theorem dL_law_337 : decode bL_law.2.1 337 = .ok (.aload_n 2, 1) := by decide +kernel
theorem dL_law_338 : decode bL_law.2.1 338 = .ok (.aload_n 0, 1) := by decide +kernel
theorem dL_law_339 : decode bL_law.2.1 339 = .ok (.iload 4, 2) := by decide +kernel
theorem dL_law_341 : decode bL_law.2.1 341 = .ok (.iconst 1, 1) := by decide +kernel
theorem dL_law_342 : decode bL_law.2.1 342 = .ok (.iadd, 1) := by decide +kernel
theorem dL_law_343 : decode bL_law.2.1 343 = .ok (.iaload, 1) := by decide +kernel
theorem dL_law_344 : decode bL_law.2.1 344 = .ok (.invokevirtual 37, 3) := by decide +kernel
theorem dL_law_347 : decode bL_law.2.1 347 = .ok (.if_icmp .eq 1066, 3) := by decide +kernel
theorem dL_law_350 : decode bL_law.2.1 350 = .ok (.iconst 0, 1) := by decide +kernel
theorem dL_law_351 : decode bL_law.2.1 351 = .ok (.ireturn, 1) := by decide +kernel
theorem dL_law_352 : decode bL_law.2.1 352 = .ok (.aload_n 1, 1) := by decide +kernel
theorem dL_law_353 : decode bL_law.2.1 353 = .ok (.aload_n 0, 1) := by decide +kernel
theorem dL_law_354 : decode bL_law.2.1 354 = .ok (.iload 4, 2) := by decide +kernel
theorem dL_law_356 : decode bL_law.2.1 356 = .ok (.iconst 1, 1) := by decide +kernel
theorem dL_law_357 : decode bL_law.2.1 357 = .ok (.iadd, 1) := by decide +kernel
theorem dL_law_358 : decode bL_law.2.1 358 = .ok (.iaload, 1) := by decide +kernel
theorem dL_law_359 : decode bL_law.2.1 359 = .ok (.aload_n 0, 1) := by decide +kernel
theorem dL_law_360 : decode bL_law.2.1 360 = .ok (.iload 4, 2) := by decide +kernel
theorem dL_law_362 : decode bL_law.2.1 362 = .ok (.iconst 2, 1) := by decide +kernel
theorem dL_law_363 : decode bL_law.2.1 363 = .ok (.iadd, 1) := by decide +kernel
theorem dL_law_364 : decode bL_law.2.1 364 = .ok (.iaload, 1) := by decide +kernel
theorem dL_law_365 : decode bL_law.2.1 365 = .ok (.aload_n 3, 1) := by decide +kernel
theorem dL_law_366 : decode bL_law.2.1 366 = .ok (.invokestatic 38, 3) := by decide +kernel
theorem dL_law_369 : decode bL_law.2.1 369 = .ok (.istore 5, 2) := by decide +kernel
theorem dL_law_371 : decode bL_law.2.1 371 = .ok (.aload_n 2, 1) := by decide +kernel
theorem dL_law_372 : decode bL_law.2.1 372 = .ok (.aload_n 0, 1) := by decide +kernel
theorem dL_law_373 : decode bL_law.2.1 373 = .ok (.iload 4, 2) := by decide +kernel
theorem dL_law_375 : decode bL_law.2.1 375 = .ok (.iconst 1, 1) := by decide +kernel
theorem dL_law_376 : decode bL_law.2.1 376 = .ok (.iadd, 1) := by decide +kernel
theorem dL_law_377 : decode bL_law.2.1 377 = .ok (.iaload, 1) := by decide +kernel
theorem dL_law_378 : decode bL_law.2.1 378 = .ok (.aload_n 0, 1) := by decide +kernel
theorem dL_law_379 : decode bL_law.2.1 379 = .ok (.iload 4, 2) := by decide +kernel
theorem dL_law_381 : decode bL_law.2.1 381 = .ok (.iconst 2, 1) := by decide +kernel
theorem dL_law_382 : decode bL_law.2.1 382 = .ok (.iadd, 1) := by decide +kernel
theorem dL_law_383 : decode bL_law.2.1 383 = .ok (.iaload, 1) := by decide +kernel
theorem dL_law_384 : decode bL_law.2.1 384 = .ok (.invokevirtual 43, 3) := by decide +kernel
theorem dL_law_387 : decode bL_law.2.1 387 = .ok (.istore 6, 2) := by decide +kernel
theorem dL_law_389 : decode bL_law.2.1 389 = .ok (.aload_n 2, 1) := by decide +kernel
theorem dL_law_390 : decode bL_law.2.1 390 = .ok (.invokevirtual 44, 3) := by decide +kernel
theorem dL_law_393 : decode bL_law.2.1 393 = .ok (.iload 5, 2) := by decide +kernel
theorem dL_law_395 : decode bL_law.2.1 395 = .ok (.if_icmp .eq 5, 3) := by decide +kernel
theorem dL_law_398 : decode bL_law.2.1 398 = .ok (.iconst 0, 1) := by decide +kernel
theorem dL_law_399 : decode bL_law.2.1 399 = .ok (.ireturn, 1) := by decide +kernel
theorem dL_law_400 : decode bL_law.2.1 400 = .ok (.iload 5, 2) := by decide +kernel
theorem dL_law_402 : decode bL_law.2.1 402 = .ok (.ifCond .ne 15, 3) := by decide +kernel
theorem dL_law_405 : decode bL_law.2.1 405 = .ok (.aload_n 3, 1) := by decide +kernel
theorem dL_law_406 : decode bL_law.2.1 406 = .ok (.iconst 0, 1) := by decide +kernel
theorem dL_law_407 : decode bL_law.2.1 407 = .ok (.laload, 1) := by decide +kernel
theorem dL_law_408 : decode bL_law.2.1 408 = .ok (.iload 6, 2) := by decide +kernel
theorem dL_law_410 : decode bL_law.2.1 410 = .ok (.i2l, 1) := by decide +kernel
theorem dL_law_411 : decode bL_law.2.1 411 = .ok (.lcmp, 1) := by decide +kernel
theorem dL_law_412 : decode bL_law.2.1 412 = .ok (.ifCond .eq 5, 3) := by decide +kernel
theorem dL_law_415 : decode bL_law.2.1 415 = .ok (.iconst 0, 1) := by decide +kernel
theorem dL_law_416 : decode bL_law.2.1 416 = .ok (.ireturn, 1) := by decide +kernel
theorem dL_law_417 : decode bL_law.2.1 417 = .ok (.goto 996, 3) := by decide +kernel
theorem dL_law_420 : decode bL_law.2.1 420 = .ok (.aload_n 1, 1) := by decide +kernel
theorem dL_law_421 : decode bL_law.2.1 421 = .ok (.aload_n 0, 1) := by decide +kernel
theorem dL_law_422 : decode bL_law.2.1 422 = .ok (.iload 4, 2) := by decide +kernel
theorem dL_law_424 : decode bL_law.2.1 424 = .ok (.iconst 1, 1) := by decide +kernel
theorem dL_law_425 : decode bL_law.2.1 425 = .ok (.iadd, 1) := by decide +kernel
theorem dL_law_426 : decode bL_law.2.1 426 = .ok (.iaload, 1) := by decide +kernel
theorem dL_law_427 : decode bL_law.2.1 427 = .ok (.invokevirtual 48, 3) := by decide +kernel
theorem dL_law_430 : decode bL_law.2.1 430 = .ok (.aload_n 2, 1) := by decide +kernel
theorem dL_law_431 : decode bL_law.2.1 431 = .ok (.aload_n 0, 1) := by decide +kernel
theorem dL_law_432 : decode bL_law.2.1 432 = .ok (.iload 4, 2) := by decide +kernel
theorem dL_law_434 : decode bL_law.2.1 434 = .ok (.iconst 1, 1) := by decide +kernel
theorem dL_law_435 : decode bL_law.2.1 435 = .ok (.iadd, 1) := by decide +kernel
theorem dL_law_436 : decode bL_law.2.1 436 = .ok (.iaload, 1) := by decide +kernel
theorem dL_law_437 : decode bL_law.2.1 437 = .ok (.invokevirtual 51, 3) := by decide +kernel
theorem dL_law_440 : decode bL_law.2.1 440 = .ok (.if_icmp .eq 973, 3) := by decide +kernel
theorem dL_law_443 : decode bL_law.2.1 443 = .ok (.iconst 0, 1) := by decide +kernel
theorem dL_law_444 : decode bL_law.2.1 444 = .ok (.ireturn, 1) := by decide +kernel
theorem dL_law_445 : decode bL_law.2.1 445 = .ok (.aload_n 1, 1) := by decide +kernel
theorem dL_law_446 : decode bL_law.2.1 446 = .ok (.aload_n 0, 1) := by decide +kernel
theorem dL_law_447 : decode bL_law.2.1 447 = .ok (.iload 4, 2) := by decide +kernel
theorem dL_law_449 : decode bL_law.2.1 449 = .ok (.iconst 1, 1) := by decide +kernel
theorem dL_law_450 : decode bL_law.2.1 450 = .ok (.iadd, 1) := by decide +kernel
theorem dL_law_451 : decode bL_law.2.1 451 = .ok (.iaload, 1) := by decide +kernel
theorem dL_law_452 : decode bL_law.2.1 452 = .ok (.aload_n 0, 1) := by decide +kernel
theorem dL_law_453 : decode bL_law.2.1 453 = .ok (.iload 4, 2) := by decide +kernel
theorem dL_law_455 : decode bL_law.2.1 455 = .ok (.iconst 2, 1) := by decide +kernel
theorem dL_law_456 : decode bL_law.2.1 456 = .ok (.iadd, 1) := by decide +kernel
theorem dL_law_457 : decode bL_law.2.1 457 = .ok (.iaload, 1) := by decide +kernel
theorem dL_law_458 : decode bL_law.2.1 458 = .ok (.aload_n 0, 1) := by decide +kernel
theorem dL_law_459 : decode bL_law.2.1 459 = .ok (.iload 4, 2) := by decide +kernel
theorem dL_law_461 : decode bL_law.2.1 461 = .ok (.iconst 3, 1) := by decide +kernel
theorem dL_law_462 : decode bL_law.2.1 462 = .ok (.iadd, 1) := by decide +kernel
theorem dL_law_463 : decode bL_law.2.1 463 = .ok (.iaload, 1) := by decide +kernel
theorem dL_law_464 : decode bL_law.2.1 464 = .ok (.invokevirtual 52, 3) := by decide +kernel
theorem dL_law_467 : decode bL_law.2.1 467 = .ok (.aload_n 2, 1) := by decide +kernel
theorem dL_law_468 : decode bL_law.2.1 468 = .ok (.aload_n 0, 1) := by decide +kernel
theorem dL_law_469 : decode bL_law.2.1 469 = .ok (.iload 4, 2) := by decide +kernel
theorem dL_law_471 : decode bL_law.2.1 471 = .ok (.iconst 1, 1) := by decide +kernel
theorem dL_law_472 : decode bL_law.2.1 472 = .ok (.iadd, 1) := by decide +kernel
theorem dL_law_473 : decode bL_law.2.1 473 = .ok (.iaload, 1) := by decide +kernel
theorem dL_law_474 : decode bL_law.2.1 474 = .ok (.aload_n 0, 1) := by decide +kernel
theorem dL_law_475 : decode bL_law.2.1 475 = .ok (.iload 4, 2) := by decide +kernel
theorem dL_law_477 : decode bL_law.2.1 477 = .ok (.iconst 2, 1) := by decide +kernel
theorem dL_law_478 : decode bL_law.2.1 478 = .ok (.iadd, 1) := by decide +kernel
theorem dL_law_479 : decode bL_law.2.1 479 = .ok (.iaload, 1) := by decide +kernel
theorem dL_law_480 : decode bL_law.2.1 480 = .ok (.aload_n 0, 1) := by decide +kernel
theorem dL_law_481 : decode bL_law.2.1 481 = .ok (.iload 4, 2) := by decide +kernel
theorem dL_law_483 : decode bL_law.2.1 483 = .ok (.iconst 3, 1) := by decide +kernel
theorem dL_law_484 : decode bL_law.2.1 484 = .ok (.iadd, 1) := by decide +kernel
theorem dL_law_485 : decode bL_law.2.1 485 = .ok (.iaload, 1) := by decide +kernel
theorem dL_law_486 : decode bL_law.2.1 486 = .ok (.invokevirtual 56, 3) := by decide +kernel
theorem dL_law_489 : decode bL_law.2.1 489 = .ok (.if_icmp .eq 924, 3) := by decide +kernel
theorem dL_law_492 : decode bL_law.2.1 492 = .ok (.iconst 0, 1) := by decide +kernel
theorem dL_law_493 : decode bL_law.2.1 493 = .ok (.ireturn, 1) := by decide +kernel
theorem dL_law_494 : decode bL_law.2.1 494 = .ok (.aload_n 1, 1) := by decide +kernel
theorem dL_law_495 : decode bL_law.2.1 495 = .ok (.aload_n 0, 1) := by decide +kernel
theorem dL_law_496 : decode bL_law.2.1 496 = .ok (.iload 4, 2) := by decide +kernel
theorem dL_law_498 : decode bL_law.2.1 498 = .ok (.iconst 1, 1) := by decide +kernel
theorem dL_law_499 : decode bL_law.2.1 499 = .ok (.iadd, 1) := by decide +kernel
theorem dL_law_500 : decode bL_law.2.1 500 = .ok (.iaload, 1) := by decide +kernel
theorem dL_law_501 : decode bL_law.2.1 501 = .ok (.aload_n 0, 1) := by decide +kernel
theorem dL_law_502 : decode bL_law.2.1 502 = .ok (.iload 4, 2) := by decide +kernel
theorem dL_law_504 : decode bL_law.2.1 504 = .ok (.iconst 2, 1) := by decide +kernel
theorem dL_law_505 : decode bL_law.2.1 505 = .ok (.iadd, 1) := by decide +kernel
theorem dL_law_506 : decode bL_law.2.1 506 = .ok (.iaload, 1) := by decide +kernel
theorem dL_law_507 : decode bL_law.2.1 507 = .ok (.ifCond .eq 7, 3) := by decide +kernel
theorem dL_law_510 : decode bL_law.2.1 510 = .ok (.iconst 1, 1) := by decide +kernel
theorem dL_law_511 : decode bL_law.2.1 511 = .ok (.goto 4, 3) := by decide +kernel
theorem dL_law_514 : decode bL_law.2.1 514 = .ok (.iconst 0, 1) := by decide +kernel
theorem dL_law_515 : decode bL_law.2.1 515 = .ok (.invokevirtual 57, 3) := by decide +kernel
theorem dL_law_518 : decode bL_law.2.1 518 = .ok (.aload_n 2, 1) := by decide +kernel
theorem dL_law_519 : decode bL_law.2.1 519 = .ok (.aload_n 0, 1) := by decide +kernel
theorem dL_law_520 : decode bL_law.2.1 520 = .ok (.iload 4, 2) := by decide +kernel
theorem dL_law_522 : decode bL_law.2.1 522 = .ok (.iconst 1, 1) := by decide +kernel
theorem dL_law_523 : decode bL_law.2.1 523 = .ok (.iadd, 1) := by decide +kernel
theorem dL_law_524 : decode bL_law.2.1 524 = .ok (.iaload, 1) := by decide +kernel
theorem dL_law_525 : decode bL_law.2.1 525 = .ok (.aload_n 0, 1) := by decide +kernel
theorem dL_law_526 : decode bL_law.2.1 526 = .ok (.iload 4, 2) := by decide +kernel
theorem dL_law_528 : decode bL_law.2.1 528 = .ok (.iconst 2, 1) := by decide +kernel
theorem dL_law_529 : decode bL_law.2.1 529 = .ok (.iadd, 1) := by decide +kernel
theorem dL_law_530 : decode bL_law.2.1 530 = .ok (.iaload, 1) := by decide +kernel
theorem dL_law_531 : decode bL_law.2.1 531 = .ok (.ifCond .eq 7, 3) := by decide +kernel
theorem dL_law_534 : decode bL_law.2.1 534 = .ok (.iconst 1, 1) := by decide +kernel
theorem dL_law_535 : decode bL_law.2.1 535 = .ok (.goto 4, 3) := by decide +kernel
theorem dL_law_538 : decode bL_law.2.1 538 = .ok (.iconst 0, 1) := by decide +kernel
theorem dL_law_539 : decode bL_law.2.1 539 = .ok (.invokevirtual 61, 3) := by decide +kernel
theorem dL_law_542 : decode bL_law.2.1 542 = .ok (.if_icmp .eq 871, 3) := by decide +kernel
theorem dL_law_545 : decode bL_law.2.1 545 = .ok (.iconst 0, 1) := by decide +kernel
theorem dL_law_546 : decode bL_law.2.1 546 = .ok (.ireturn, 1) := by decide +kernel
theorem dL_law_547 : decode bL_law.2.1 547 = .ok (.aload_n 1, 1) := by decide +kernel
theorem dL_law_548 : decode bL_law.2.1 548 = .ok (.aload_n 0, 1) := by decide +kernel
theorem dL_law_549 : decode bL_law.2.1 549 = .ok (.iload 4, 2) := by decide +kernel
theorem dL_law_551 : decode bL_law.2.1 551 = .ok (.iconst 1, 1) := by decide +kernel
theorem dL_law_552 : decode bL_law.2.1 552 = .ok (.iadd, 1) := by decide +kernel
theorem dL_law_553 : decode bL_law.2.1 553 = .ok (.iaload, 1) := by decide +kernel
theorem dL_law_554 : decode bL_law.2.1 554 = .ok (.invokevirtual 62, 3) := by decide +kernel
theorem dL_law_557 : decode bL_law.2.1 557 = .ok (.aload_n 2, 1) := by decide +kernel
theorem dL_law_558 : decode bL_law.2.1 558 = .ok (.aload_n 0, 1) := by decide +kernel
theorem dL_law_559 : decode bL_law.2.1 559 = .ok (.iload 4, 2) := by decide +kernel
theorem dL_law_561 : decode bL_law.2.1 561 = .ok (.iconst 1, 1) := by decide +kernel
theorem dL_law_562 : decode bL_law.2.1 562 = .ok (.iadd, 1) := by decide +kernel
theorem dL_law_563 : decode bL_law.2.1 563 = .ok (.iaload, 1) := by decide +kernel
theorem dL_law_564 : decode bL_law.2.1 564 = .ok (.invokevirtual 65, 3) := by decide +kernel
theorem dL_law_567 : decode bL_law.2.1 567 = .ok (.if_icmp .eq 846, 3) := by decide +kernel
theorem dL_law_570 : decode bL_law.2.1 570 = .ok (.iconst 0, 1) := by decide +kernel
theorem dL_law_571 : decode bL_law.2.1 571 = .ok (.ireturn, 1) := by decide +kernel
theorem dL_law_572 : decode bL_law.2.1 572 = .ok (.aload_n 1, 1) := by decide +kernel
theorem dL_law_573 : decode bL_law.2.1 573 = .ok (.aload_n 0, 1) := by decide +kernel
theorem dL_law_574 : decode bL_law.2.1 574 = .ok (.iload 4, 2) := by decide +kernel
theorem dL_law_576 : decode bL_law.2.1 576 = .ok (.iconst 1, 1) := by decide +kernel
theorem dL_law_577 : decode bL_law.2.1 577 = .ok (.iadd, 1) := by decide +kernel
theorem dL_law_578 : decode bL_law.2.1 578 = .ok (.iaload, 1) := by decide +kernel
theorem dL_law_579 : decode bL_law.2.1 579 = .ok (.aload_n 0, 1) := by decide +kernel
theorem dL_law_580 : decode bL_law.2.1 580 = .ok (.iload 4, 2) := by decide +kernel
theorem dL_law_582 : decode bL_law.2.1 582 = .ok (.iconst 2, 1) := by decide +kernel
theorem dL_law_583 : decode bL_law.2.1 583 = .ok (.iadd, 1) := by decide +kernel
theorem dL_law_584 : decode bL_law.2.1 584 = .ok (.iaload, 1) := by decide +kernel
theorem dL_law_585 : decode bL_law.2.1 585 = .ok (.invokevirtual 66, 3) := by decide +kernel
theorem dL_law_588 : decode bL_law.2.1 588 = .ok (.aload_n 2, 1) := by decide +kernel
theorem dL_law_589 : decode bL_law.2.1 589 = .ok (.aload_n 0, 1) := by decide +kernel
theorem dL_law_590 : decode bL_law.2.1 590 = .ok (.iload 4, 2) := by decide +kernel
theorem dL_law_592 : decode bL_law.2.1 592 = .ok (.iconst 1, 1) := by decide +kernel
theorem dL_law_593 : decode bL_law.2.1 593 = .ok (.iadd, 1) := by decide +kernel
theorem dL_law_594 : decode bL_law.2.1 594 = .ok (.iaload, 1) := by decide +kernel
theorem dL_law_595 : decode bL_law.2.1 595 = .ok (.aload_n 0, 1) := by decide +kernel
theorem dL_law_596 : decode bL_law.2.1 596 = .ok (.iload 4, 2) := by decide +kernel
theorem dL_law_598 : decode bL_law.2.1 598 = .ok (.iconst 2, 1) := by decide +kernel
theorem dL_law_599 : decode bL_law.2.1 599 = .ok (.iadd, 1) := by decide +kernel
theorem dL_law_600 : decode bL_law.2.1 600 = .ok (.iaload, 1) := by decide +kernel
theorem dL_law_601 : decode bL_law.2.1 601 = .ok (.invokevirtual 69, 3) := by decide +kernel
theorem dL_law_604 : decode bL_law.2.1 604 = .ok (.if_icmp .eq 809, 3) := by decide +kernel
theorem dL_law_607 : decode bL_law.2.1 607 = .ok (.iconst 0, 1) := by decide +kernel
theorem dL_law_608 : decode bL_law.2.1 608 = .ok (.ireturn, 1) := by decide +kernel
theorem dL_law_609 : decode bL_law.2.1 609 = .ok (.aload_n 1, 1) := by decide +kernel
theorem dL_law_610 : decode bL_law.2.1 610 = .ok (.aload_n 0, 1) := by decide +kernel
theorem dL_law_611 : decode bL_law.2.1 611 = .ok (.iload 4, 2) := by decide +kernel
theorem dL_law_613 : decode bL_law.2.1 613 = .ok (.iconst 1, 1) := by decide +kernel
theorem dL_law_614 : decode bL_law.2.1 614 = .ok (.iadd, 1) := by decide +kernel
theorem dL_law_615 : decode bL_law.2.1 615 = .ok (.iaload, 1) := by decide +kernel
theorem dL_law_616 : decode bL_law.2.1 616 = .ok (.aload_n 0, 1) := by decide +kernel
theorem dL_law_617 : decode bL_law.2.1 617 = .ok (.iload 4, 2) := by decide +kernel
theorem dL_law_619 : decode bL_law.2.1 619 = .ok (.iconst 2, 1) := by decide +kernel
theorem dL_law_620 : decode bL_law.2.1 620 = .ok (.iadd, 1) := by decide +kernel
theorem dL_law_621 : decode bL_law.2.1 621 = .ok (.iaload, 1) := by decide +kernel
theorem dL_law_622 : decode bL_law.2.1 622 = .ok (.invokevirtual 70, 3) := by decide +kernel
theorem dL_law_625 : decode bL_law.2.1 625 = .ok (.aload_n 2, 1) := by decide +kernel
theorem dL_law_626 : decode bL_law.2.1 626 = .ok (.aload_n 0, 1) := by decide +kernel
theorem dL_law_627 : decode bL_law.2.1 627 = .ok (.iload 4, 2) := by decide +kernel
theorem dL_law_629 : decode bL_law.2.1 629 = .ok (.iconst 1, 1) := by decide +kernel
theorem dL_law_630 : decode bL_law.2.1 630 = .ok (.iadd, 1) := by decide +kernel
theorem dL_law_631 : decode bL_law.2.1 631 = .ok (.iaload, 1) := by decide +kernel
theorem dL_law_632 : decode bL_law.2.1 632 = .ok (.aload_n 0, 1) := by decide +kernel
theorem dL_law_633 : decode bL_law.2.1 633 = .ok (.iload 4, 2) := by decide +kernel
theorem dL_law_635 : decode bL_law.2.1 635 = .ok (.iconst 2, 1) := by decide +kernel
theorem dL_law_636 : decode bL_law.2.1 636 = .ok (.iadd, 1) := by decide +kernel
theorem dL_law_637 : decode bL_law.2.1 637 = .ok (.iaload, 1) := by decide +kernel
theorem dL_law_638 : decode bL_law.2.1 638 = .ok (.invokevirtual 73, 3) := by decide +kernel
theorem dL_law_641 : decode bL_law.2.1 641 = .ok (.if_icmp .eq 772, 3) := by decide +kernel
theorem dL_law_644 : decode bL_law.2.1 644 = .ok (.iconst 0, 1) := by decide +kernel
theorem dL_law_645 : decode bL_law.2.1 645 = .ok (.ireturn, 1) := by decide +kernel
theorem dL_law_646 : decode bL_law.2.1 646 = .ok (.aload_n 1, 1) := by decide +kernel
theorem dL_law_647 : decode bL_law.2.1 647 = .ok (.aload_n 0, 1) := by decide +kernel
theorem dL_law_648 : decode bL_law.2.1 648 = .ok (.iload 4, 2) := by decide +kernel
theorem dL_law_650 : decode bL_law.2.1 650 = .ok (.iconst 1, 1) := by decide +kernel
theorem dL_law_651 : decode bL_law.2.1 651 = .ok (.iadd, 1) := by decide +kernel
theorem dL_law_652 : decode bL_law.2.1 652 = .ok (.iaload, 1) := by decide +kernel
theorem dL_law_653 : decode bL_law.2.1 653 = .ok (.i2l, 1) := by decide +kernel
theorem dL_law_654 : decode bL_law.2.1 654 = .ok (.bipush 32, 2) := by decide +kernel
theorem dL_law_656 : decode bL_law.2.1 656 = .ok (.lshl, 1) := by decide +kernel
theorem dL_law_657 : decode bL_law.2.1 657 = .ok (.aload_n 0, 1) := by decide +kernel
theorem dL_law_658 : decode bL_law.2.1 658 = .ok (.iload 4, 2) := by decide +kernel
theorem dL_law_660 : decode bL_law.2.1 660 = .ok (.iconst 2, 1) := by decide +kernel
theorem dL_law_661 : decode bL_law.2.1 661 = .ok (.iadd, 1) := by decide +kernel
theorem dL_law_662 : decode bL_law.2.1 662 = .ok (.iaload, 1) := by decide +kernel
theorem dL_law_663 : decode bL_law.2.1 663 = .ok (.i2l, 1) := by decide +kernel
theorem dL_law_664 : decode bL_law.2.1 664 = .ok (.ldc2_w 74, 3) := by decide +kernel
theorem dL_law_667 : decode bL_law.2.1 667 = .ok (.land, 1) := by decide +kernel
theorem dL_law_668 : decode bL_law.2.1 668 = .ok (.lor, 1) := by decide +kernel
theorem dL_law_669 : decode bL_law.2.1 669 = .ok (.invokevirtual 76, 3) := by decide +kernel
theorem dL_law_672 : decode bL_law.2.1 672 = .ok (.aload_n 2, 1) := by decide +kernel
theorem dL_law_673 : decode bL_law.2.1 673 = .ok (.aload_n 0, 1) := by decide +kernel
theorem dL_law_674 : decode bL_law.2.1 674 = .ok (.iload 4, 2) := by decide +kernel
theorem dL_law_676 : decode bL_law.2.1 676 = .ok (.iconst 1, 1) := by decide +kernel
theorem dL_law_677 : decode bL_law.2.1 677 = .ok (.iadd, 1) := by decide +kernel
theorem dL_law_678 : decode bL_law.2.1 678 = .ok (.iaload, 1) := by decide +kernel
theorem dL_law_679 : decode bL_law.2.1 679 = .ok (.i2l, 1) := by decide +kernel
theorem dL_law_680 : decode bL_law.2.1 680 = .ok (.bipush 32, 2) := by decide +kernel
theorem dL_law_682 : decode bL_law.2.1 682 = .ok (.lshl, 1) := by decide +kernel
theorem dL_law_683 : decode bL_law.2.1 683 = .ok (.aload_n 0, 1) := by decide +kernel
theorem dL_law_684 : decode bL_law.2.1 684 = .ok (.iload 4, 2) := by decide +kernel
theorem dL_law_686 : decode bL_law.2.1 686 = .ok (.iconst 2, 1) := by decide +kernel
theorem dL_law_687 : decode bL_law.2.1 687 = .ok (.iadd, 1) := by decide +kernel
theorem dL_law_688 : decode bL_law.2.1 688 = .ok (.iaload, 1) := by decide +kernel
theorem dL_law_689 : decode bL_law.2.1 689 = .ok (.i2l, 1) := by decide +kernel
theorem dL_law_690 : decode bL_law.2.1 690 = .ok (.ldc2_w 74, 3) := by decide +kernel
theorem dL_law_693 : decode bL_law.2.1 693 = .ok (.land, 1) := by decide +kernel
theorem dL_law_694 : decode bL_law.2.1 694 = .ok (.lor, 1) := by decide +kernel
theorem dL_law_695 : decode bL_law.2.1 695 = .ok (.invokevirtual 80, 3) := by decide +kernel
theorem dL_law_698 : decode bL_law.2.1 698 = .ok (.if_icmp .eq 715, 3) := by decide +kernel
theorem dL_law_701 : decode bL_law.2.1 701 = .ok (.iconst 0, 1) := by decide +kernel
theorem dL_law_702 : decode bL_law.2.1 702 = .ok (.ireturn, 1) := by decide +kernel
theorem dL_law_703 : decode bL_law.2.1 703 = .ok (.aload_n 1, 1) := by decide +kernel
theorem dL_law_704 : decode bL_law.2.1 704 = .ok (.aload_n 0, 1) := by decide +kernel
theorem dL_law_705 : decode bL_law.2.1 705 = .ok (.iload 4, 2) := by decide +kernel
theorem dL_law_707 : decode bL_law.2.1 707 = .ok (.iconst 1, 1) := by decide +kernel
theorem dL_law_708 : decode bL_law.2.1 708 = .ok (.iadd, 1) := by decide +kernel
theorem dL_law_709 : decode bL_law.2.1 709 = .ok (.iaload, 1) := by decide +kernel
theorem dL_law_710 : decode bL_law.2.1 710 = .ok (.invokevirtual 81, 3) := by decide +kernel
theorem dL_law_713 : decode bL_law.2.1 713 = .ok (.aload_n 2, 1) := by decide +kernel
theorem dL_law_714 : decode bL_law.2.1 714 = .ok (.aload_n 0, 1) := by decide +kernel
theorem dL_law_715 : decode bL_law.2.1 715 = .ok (.iload 4, 2) := by decide +kernel
theorem dL_law_717 : decode bL_law.2.1 717 = .ok (.iconst 1, 1) := by decide +kernel
theorem dL_law_718 : decode bL_law.2.1 718 = .ok (.iadd, 1) := by decide +kernel
theorem dL_law_719 : decode bL_law.2.1 719 = .ok (.iaload, 1) := by decide +kernel
theorem dL_law_720 : decode bL_law.2.1 720 = .ok (.invokevirtual 84, 3) := by decide +kernel
theorem dL_law_723 : decode bL_law.2.1 723 = .ok (.if_icmp .eq 690, 3) := by decide +kernel
theorem dL_law_726 : decode bL_law.2.1 726 = .ok (.iconst 0, 1) := by decide +kernel
theorem dL_law_727 : decode bL_law.2.1 727 = .ok (.ireturn, 1) := by decide +kernel
theorem dL_law_728 : decode bL_law.2.1 728 = .ok (.aload_n 1, 1) := by decide +kernel
theorem dL_law_729 : decode bL_law.2.1 729 = .ok (.aload_n 0, 1) := by decide +kernel
theorem dL_law_730 : decode bL_law.2.1 730 = .ok (.iload 4, 2) := by decide +kernel
theorem dL_law_732 : decode bL_law.2.1 732 = .ok (.iconst 1, 1) := by decide +kernel
theorem dL_law_733 : decode bL_law.2.1 733 = .ok (.iadd, 1) := by decide +kernel
theorem dL_law_734 : decode bL_law.2.1 734 = .ok (.iaload, 1) := by decide +kernel
theorem dL_law_735 : decode bL_law.2.1 735 = .ok (.invokevirtual 85, 3) := by decide +kernel
theorem dL_law_738 : decode bL_law.2.1 738 = .ok (.aload_n 2, 1) := by decide +kernel
theorem dL_law_739 : decode bL_law.2.1 739 = .ok (.aload_n 0, 1) := by decide +kernel
theorem dL_law_740 : decode bL_law.2.1 740 = .ok (.iload 4, 2) := by decide +kernel
theorem dL_law_742 : decode bL_law.2.1 742 = .ok (.iconst 1, 1) := by decide +kernel
theorem dL_law_743 : decode bL_law.2.1 743 = .ok (.iadd, 1) := by decide +kernel
theorem dL_law_744 : decode bL_law.2.1 744 = .ok (.iaload, 1) := by decide +kernel
theorem dL_law_745 : decode bL_law.2.1 745 = .ok (.invokevirtual 88, 3) := by decide +kernel
theorem dL_law_748 : decode bL_law.2.1 748 = .ok (.if_icmp .eq 665, 3) := by decide +kernel
theorem dL_law_751 : decode bL_law.2.1 751 = .ok (.iconst 0, 1) := by decide +kernel
theorem dL_law_752 : decode bL_law.2.1 752 = .ok (.ireturn, 1) := by decide +kernel
theorem dL_law_753 : decode bL_law.2.1 753 = .ok (.aload_n 1, 1) := by decide +kernel
theorem dL_law_754 : decode bL_law.2.1 754 = .ok (.aload_n 0, 1) := by decide +kernel
theorem dL_law_755 : decode bL_law.2.1 755 = .ok (.iload 4, 2) := by decide +kernel
theorem dL_law_757 : decode bL_law.2.1 757 = .ok (.iconst 1, 1) := by decide +kernel
theorem dL_law_758 : decode bL_law.2.1 758 = .ok (.iadd, 1) := by decide +kernel
theorem dL_law_759 : decode bL_law.2.1 759 = .ok (.iaload, 1) := by decide +kernel
theorem dL_law_760 : decode bL_law.2.1 760 = .ok (.invokevirtual 89, 3) := by decide +kernel
theorem dL_law_763 : decode bL_law.2.1 763 = .ok (.aload_n 2, 1) := by decide +kernel
theorem dL_law_764 : decode bL_law.2.1 764 = .ok (.aload_n 0, 1) := by decide +kernel
theorem dL_law_765 : decode bL_law.2.1 765 = .ok (.iload 4, 2) := by decide +kernel
theorem dL_law_767 : decode bL_law.2.1 767 = .ok (.iconst 1, 1) := by decide +kernel
theorem dL_law_768 : decode bL_law.2.1 768 = .ok (.iadd, 1) := by decide +kernel
theorem dL_law_769 : decode bL_law.2.1 769 = .ok (.iaload, 1) := by decide +kernel
theorem dL_law_770 : decode bL_law.2.1 770 = .ok (.invokevirtual 92, 3) := by decide +kernel
theorem dL_law_773 : decode bL_law.2.1 773 = .ok (.if_icmp .eq 640, 3) := by decide +kernel
theorem dL_law_776 : decode bL_law.2.1 776 = .ok (.iconst 0, 1) := by decide +kernel
theorem dL_law_777 : decode bL_law.2.1 777 = .ok (.ireturn, 1) := by decide +kernel
theorem dL_law_778 : decode bL_law.2.1 778 = .ok (.aload_n 1, 1) := by decide +kernel
theorem dL_law_779 : decode bL_law.2.1 779 = .ok (.aload_n 0, 1) := by decide +kernel
theorem dL_law_780 : decode bL_law.2.1 780 = .ok (.iload 4, 2) := by decide +kernel
theorem dL_law_782 : decode bL_law.2.1 782 = .ok (.iconst 1, 1) := by decide +kernel
theorem dL_law_783 : decode bL_law.2.1 783 = .ok (.iadd, 1) := by decide +kernel
theorem dL_law_784 : decode bL_law.2.1 784 = .ok (.iaload, 1) := by decide +kernel
theorem dL_law_785 : decode bL_law.2.1 785 = .ok (.invokevirtual 93, 3) := by decide +kernel
theorem dL_law_788 : decode bL_law.2.1 788 = .ok (.aload_n 2, 1) := by decide +kernel
theorem dL_law_789 : decode bL_law.2.1 789 = .ok (.aload_n 0, 1) := by decide +kernel
theorem dL_law_790 : decode bL_law.2.1 790 = .ok (.iload 4, 2) := by decide +kernel
theorem dL_law_792 : decode bL_law.2.1 792 = .ok (.iconst 1, 1) := by decide +kernel
theorem dL_law_793 : decode bL_law.2.1 793 = .ok (.iadd, 1) := by decide +kernel
theorem dL_law_794 : decode bL_law.2.1 794 = .ok (.iaload, 1) := by decide +kernel
theorem dL_law_795 : decode bL_law.2.1 795 = .ok (.invokevirtual 96, 3) := by decide +kernel
theorem dL_law_798 : decode bL_law.2.1 798 = .ok (.if_icmp .eq 615, 3) := by decide +kernel
theorem dL_law_801 : decode bL_law.2.1 801 = .ok (.iconst 0, 1) := by decide +kernel
theorem dL_law_802 : decode bL_law.2.1 802 = .ok (.ireturn, 1) := by decide +kernel
theorem dL_law_803 : decode bL_law.2.1 803 = .ok (.aload_n 1, 1) := by decide +kernel
theorem dL_law_804 : decode bL_law.2.1 804 = .ok (.invokevirtual 97, 3) := by decide +kernel
theorem dL_law_807 : decode bL_law.2.1 807 = .ok (.aload_n 2, 1) := by decide +kernel
theorem dL_law_808 : decode bL_law.2.1 808 = .ok (.invokevirtual 100, 3) := by decide +kernel
theorem dL_law_811 : decode bL_law.2.1 811 = .ok (.if_icmp .eq 602, 3) := by decide +kernel
theorem dL_law_814 : decode bL_law.2.1 814 = .ok (.iconst 0, 1) := by decide +kernel
theorem dL_law_815 : decode bL_law.2.1 815 = .ok (.ireturn, 1) := by decide +kernel
theorem dL_law_816 : decode bL_law.2.1 816 = .ok (.aload_n 1, 1) := by decide +kernel
theorem dL_law_817 : decode bL_law.2.1 817 = .ok (.aload_n 0, 1) := by decide +kernel
theorem dL_law_818 : decode bL_law.2.1 818 = .ok (.iload 4, 2) := by decide +kernel
theorem dL_law_820 : decode bL_law.2.1 820 = .ok (.iconst 1, 1) := by decide +kernel
theorem dL_law_821 : decode bL_law.2.1 821 = .ok (.iadd, 1) := by decide +kernel
theorem dL_law_822 : decode bL_law.2.1 822 = .ok (.iaload, 1) := by decide +kernel
theorem dL_law_823 : decode bL_law.2.1 823 = .ok (.invokevirtual 101, 3) := by decide +kernel
theorem dL_law_826 : decode bL_law.2.1 826 = .ok (.aload_n 2, 1) := by decide +kernel
theorem dL_law_827 : decode bL_law.2.1 827 = .ok (.aload_n 0, 1) := by decide +kernel
theorem dL_law_828 : decode bL_law.2.1 828 = .ok (.iload 4, 2) := by decide +kernel
theorem dL_law_830 : decode bL_law.2.1 830 = .ok (.iconst 1, 1) := by decide +kernel
theorem dL_law_831 : decode bL_law.2.1 831 = .ok (.iadd, 1) := by decide +kernel
theorem dL_law_832 : decode bL_law.2.1 832 = .ok (.iaload, 1) := by decide +kernel
theorem dL_law_833 : decode bL_law.2.1 833 = .ok (.invokevirtual 104, 3) := by decide +kernel
theorem dL_law_836 : decode bL_law.2.1 836 = .ok (.if_icmp .eq 577, 3) := by decide +kernel
theorem dL_law_839 : decode bL_law.2.1 839 = .ok (.iconst 0, 1) := by decide +kernel
theorem dL_law_840 : decode bL_law.2.1 840 = .ok (.ireturn, 1) := by decide +kernel
theorem dL_law_841 : decode bL_law.2.1 841 = .ok (.aload_n 1, 1) := by decide +kernel
theorem dL_law_842 : decode bL_law.2.1 842 = .ok (.aload_n 0, 1) := by decide +kernel
theorem dL_law_843 : decode bL_law.2.1 843 = .ok (.iload 4, 2) := by decide +kernel
theorem dL_law_845 : decode bL_law.2.1 845 = .ok (.iconst 1, 1) := by decide +kernel
theorem dL_law_846 : decode bL_law.2.1 846 = .ok (.iadd, 1) := by decide +kernel
theorem dL_law_847 : decode bL_law.2.1 847 = .ok (.iaload, 1) := by decide +kernel
theorem dL_law_848 : decode bL_law.2.1 848 = .ok (.invokevirtual 105, 3) := by decide +kernel
theorem dL_law_851 : decode bL_law.2.1 851 = .ok (.aload_n 2, 1) := by decide +kernel
theorem dL_law_852 : decode bL_law.2.1 852 = .ok (.aload_n 0, 1) := by decide +kernel
theorem dL_law_853 : decode bL_law.2.1 853 = .ok (.iload 4, 2) := by decide +kernel
theorem dL_law_855 : decode bL_law.2.1 855 = .ok (.iconst 1, 1) := by decide +kernel
theorem dL_law_856 : decode bL_law.2.1 856 = .ok (.iadd, 1) := by decide +kernel
theorem dL_law_857 : decode bL_law.2.1 857 = .ok (.iaload, 1) := by decide +kernel
theorem dL_law_858 : decode bL_law.2.1 858 = .ok (.invokevirtual 108, 3) := by decide +kernel
theorem dL_law_861 : decode bL_law.2.1 861 = .ok (.if_icmp .eq 552, 3) := by decide +kernel
theorem dL_law_864 : decode bL_law.2.1 864 = .ok (.iconst 0, 1) := by decide +kernel
theorem dL_law_865 : decode bL_law.2.1 865 = .ok (.ireturn, 1) := by decide +kernel
theorem dL_law_866 : decode bL_law.2.1 866 = .ok (.aload_n 1, 1) := by decide +kernel
theorem dL_law_867 : decode bL_law.2.1 867 = .ok (.aload_n 0, 1) := by decide +kernel
theorem dL_law_868 : decode bL_law.2.1 868 = .ok (.iload 4, 2) := by decide +kernel
theorem dL_law_870 : decode bL_law.2.1 870 = .ok (.iconst 1, 1) := by decide +kernel
theorem dL_law_871 : decode bL_law.2.1 871 = .ok (.iadd, 1) := by decide +kernel
theorem dL_law_872 : decode bL_law.2.1 872 = .ok (.iaload, 1) := by decide +kernel
theorem dL_law_873 : decode bL_law.2.1 873 = .ok (.invokevirtual 109, 3) := by decide +kernel
theorem dL_law_876 : decode bL_law.2.1 876 = .ok (.aload_n 2, 1) := by decide +kernel
theorem dL_law_877 : decode bL_law.2.1 877 = .ok (.aload_n 0, 1) := by decide +kernel
theorem dL_law_878 : decode bL_law.2.1 878 = .ok (.iload 4, 2) := by decide +kernel
theorem dL_law_880 : decode bL_law.2.1 880 = .ok (.iconst 1, 1) := by decide +kernel
theorem dL_law_881 : decode bL_law.2.1 881 = .ok (.iadd, 1) := by decide +kernel
theorem dL_law_882 : decode bL_law.2.1 882 = .ok (.iaload, 1) := by decide +kernel
theorem dL_law_883 : decode bL_law.2.1 883 = .ok (.invokevirtual 112, 3) := by decide +kernel
theorem dL_law_886 : decode bL_law.2.1 886 = .ok (.if_icmp .eq 527, 3) := by decide +kernel
theorem dL_law_889 : decode bL_law.2.1 889 = .ok (.iconst 0, 1) := by decide +kernel
theorem dL_law_890 : decode bL_law.2.1 890 = .ok (.ireturn, 1) := by decide +kernel
theorem dL_law_891 : decode bL_law.2.1 891 = .ok (.aload_n 1, 1) := by decide +kernel
theorem dL_law_892 : decode bL_law.2.1 892 = .ok (.aload_n 0, 1) := by decide +kernel
theorem dL_law_893 : decode bL_law.2.1 893 = .ok (.iload 4, 2) := by decide +kernel
theorem dL_law_895 : decode bL_law.2.1 895 = .ok (.iconst 1, 1) := by decide +kernel
theorem dL_law_896 : decode bL_law.2.1 896 = .ok (.iadd, 1) := by decide +kernel
theorem dL_law_897 : decode bL_law.2.1 897 = .ok (.iaload, 1) := by decide +kernel
theorem dL_law_898 : decode bL_law.2.1 898 = .ok (.aload_n 0, 1) := by decide +kernel
theorem dL_law_899 : decode bL_law.2.1 899 = .ok (.iload 4, 2) := by decide +kernel
theorem dL_law_901 : decode bL_law.2.1 901 = .ok (.iconst 2, 1) := by decide +kernel
theorem dL_law_902 : decode bL_law.2.1 902 = .ok (.iadd, 1) := by decide +kernel
theorem dL_law_903 : decode bL_law.2.1 903 = .ok (.iaload, 1) := by decide +kernel
theorem dL_law_904 : decode bL_law.2.1 904 = .ok (.invokevirtual 113, 3) := by decide +kernel
theorem dL_law_907 : decode bL_law.2.1 907 = .ok (.aload_n 2, 1) := by decide +kernel
theorem dL_law_908 : decode bL_law.2.1 908 = .ok (.aload_n 0, 1) := by decide +kernel
theorem dL_law_909 : decode bL_law.2.1 909 = .ok (.iload 4, 2) := by decide +kernel
theorem dL_law_911 : decode bL_law.2.1 911 = .ok (.iconst 1, 1) := by decide +kernel
theorem dL_law_912 : decode bL_law.2.1 912 = .ok (.iadd, 1) := by decide +kernel
theorem dL_law_913 : decode bL_law.2.1 913 = .ok (.iaload, 1) := by decide +kernel
theorem dL_law_914 : decode bL_law.2.1 914 = .ok (.aload_n 0, 1) := by decide +kernel
theorem dL_law_915 : decode bL_law.2.1 915 = .ok (.iload 4, 2) := by decide +kernel
theorem dL_law_917 : decode bL_law.2.1 917 = .ok (.iconst 2, 1) := by decide +kernel
theorem dL_law_918 : decode bL_law.2.1 918 = .ok (.iadd, 1) := by decide +kernel
theorem dL_law_919 : decode bL_law.2.1 919 = .ok (.iaload, 1) := by decide +kernel
theorem dL_law_920 : decode bL_law.2.1 920 = .ok (.invokevirtual 116, 3) := by decide +kernel
theorem dL_law_923 : decode bL_law.2.1 923 = .ok (.if_icmp .eq 490, 3) := by decide +kernel
theorem dL_law_926 : decode bL_law.2.1 926 = .ok (.iconst 0, 1) := by decide +kernel
theorem dL_law_927 : decode bL_law.2.1 927 = .ok (.ireturn, 1) := by decide +kernel
theorem dL_law_928 : decode bL_law.2.1 928 = .ok (.aload_n 1, 1) := by decide +kernel
theorem dL_law_929 : decode bL_law.2.1 929 = .ok (.aload_n 0, 1) := by decide +kernel
theorem dL_law_930 : decode bL_law.2.1 930 = .ok (.iload 4, 2) := by decide +kernel
theorem dL_law_932 : decode bL_law.2.1 932 = .ok (.iconst 1, 1) := by decide +kernel
theorem dL_law_933 : decode bL_law.2.1 933 = .ok (.iadd, 1) := by decide +kernel
theorem dL_law_934 : decode bL_law.2.1 934 = .ok (.iaload, 1) := by decide +kernel
theorem dL_law_935 : decode bL_law.2.1 935 = .ok (.invokevirtual 117, 3) := by decide +kernel
theorem dL_law_938 : decode bL_law.2.1 938 = .ok (.aload_n 2, 1) := by decide +kernel
theorem dL_law_939 : decode bL_law.2.1 939 = .ok (.aload_n 0, 1) := by decide +kernel
theorem dL_law_940 : decode bL_law.2.1 940 = .ok (.iload 4, 2) := by decide +kernel
theorem dL_law_942 : decode bL_law.2.1 942 = .ok (.iconst 1, 1) := by decide +kernel
theorem dL_law_943 : decode bL_law.2.1 943 = .ok (.iadd, 1) := by decide +kernel
theorem dL_law_944 : decode bL_law.2.1 944 = .ok (.iaload, 1) := by decide +kernel
theorem dL_law_945 : decode bL_law.2.1 945 = .ok (.invokevirtual 120, 3) := by decide +kernel
theorem dL_law_948 : decode bL_law.2.1 948 = .ok (.if_icmp .eq 465, 3) := by decide +kernel
theorem dL_law_951 : decode bL_law.2.1 951 = .ok (.iconst 0, 1) := by decide +kernel
theorem dL_law_952 : decode bL_law.2.1 952 = .ok (.ireturn, 1) := by decide +kernel
theorem dL_law_953 : decode bL_law.2.1 953 = .ok (.aload_n 1, 1) := by decide +kernel
theorem dL_law_954 : decode bL_law.2.1 954 = .ok (.aload_n 0, 1) := by decide +kernel
theorem dL_law_955 : decode bL_law.2.1 955 = .ok (.iload 4, 2) := by decide +kernel
theorem dL_law_957 : decode bL_law.2.1 957 = .ok (.iconst 1, 1) := by decide +kernel
theorem dL_law_958 : decode bL_law.2.1 958 = .ok (.iadd, 1) := by decide +kernel
theorem dL_law_959 : decode bL_law.2.1 959 = .ok (.iaload, 1) := by decide +kernel
theorem dL_law_960 : decode bL_law.2.1 960 = .ok (.aload_n 0, 1) := by decide +kernel
theorem dL_law_961 : decode bL_law.2.1 961 = .ok (.iload 4, 2) := by decide +kernel
theorem dL_law_963 : decode bL_law.2.1 963 = .ok (.iconst 2, 1) := by decide +kernel
theorem dL_law_964 : decode bL_law.2.1 964 = .ok (.iadd, 1) := by decide +kernel
theorem dL_law_965 : decode bL_law.2.1 965 = .ok (.iaload, 1) := by decide +kernel
theorem dL_law_966 : decode bL_law.2.1 966 = .ok (.aload_n 0, 1) := by decide +kernel
theorem dL_law_967 : decode bL_law.2.1 967 = .ok (.iload 4, 2) := by decide +kernel
theorem dL_law_969 : decode bL_law.2.1 969 = .ok (.iconst 3, 1) := by decide +kernel
theorem dL_law_970 : decode bL_law.2.1 970 = .ok (.iadd, 1) := by decide +kernel
theorem dL_law_971 : decode bL_law.2.1 971 = .ok (.iaload, 1) := by decide +kernel
theorem dL_law_972 : decode bL_law.2.1 972 = .ok (.invokevirtual 121, 3) := by decide +kernel
theorem dL_law_975 : decode bL_law.2.1 975 = .ok (.aload_n 2, 1) := by decide +kernel
theorem dL_law_976 : decode bL_law.2.1 976 = .ok (.aload_n 0, 1) := by decide +kernel
theorem dL_law_977 : decode bL_law.2.1 977 = .ok (.iload 4, 2) := by decide +kernel
theorem dL_law_979 : decode bL_law.2.1 979 = .ok (.iconst 1, 1) := by decide +kernel
theorem dL_law_980 : decode bL_law.2.1 980 = .ok (.iadd, 1) := by decide +kernel
theorem dL_law_981 : decode bL_law.2.1 981 = .ok (.iaload, 1) := by decide +kernel
theorem dL_law_982 : decode bL_law.2.1 982 = .ok (.aload_n 0, 1) := by decide +kernel
theorem dL_law_983 : decode bL_law.2.1 983 = .ok (.iload 4, 2) := by decide +kernel
theorem dL_law_985 : decode bL_law.2.1 985 = .ok (.iconst 2, 1) := by decide +kernel
theorem dL_law_986 : decode bL_law.2.1 986 = .ok (.iadd, 1) := by decide +kernel
theorem dL_law_987 : decode bL_law.2.1 987 = .ok (.iaload, 1) := by decide +kernel
theorem dL_law_988 : decode bL_law.2.1 988 = .ok (.aload_n 0, 1) := by decide +kernel
theorem dL_law_989 : decode bL_law.2.1 989 = .ok (.iload 4, 2) := by decide +kernel
theorem dL_law_991 : decode bL_law.2.1 991 = .ok (.iconst 3, 1) := by decide +kernel
theorem dL_law_992 : decode bL_law.2.1 992 = .ok (.iadd, 1) := by decide +kernel
theorem dL_law_993 : decode bL_law.2.1 993 = .ok (.iaload, 1) := by decide +kernel
theorem dL_law_994 : decode bL_law.2.1 994 = .ok (.invokevirtual 125, 3) := by decide +kernel
theorem dL_law_997 : decode bL_law.2.1 997 = .ok (.if_icmp .eq 416, 3) := by decide +kernel
theorem dL_law_1000 : decode bL_law.2.1 1000 = .ok (.iconst 0, 1) := by decide +kernel
theorem dL_law_1001 : decode bL_law.2.1 1001 = .ok (.ireturn, 1) := by decide +kernel
theorem dL_law_1002 : decode bL_law.2.1 1002 = .ok (.aload_n 1, 1) := by decide +kernel
theorem dL_law_1003 : decode bL_law.2.1 1003 = .ok (.aload_n 0, 1) := by decide +kernel
theorem dL_law_1004 : decode bL_law.2.1 1004 = .ok (.iload 4, 2) := by decide +kernel
theorem dL_law_1006 : decode bL_law.2.1 1006 = .ok (.iconst 1, 1) := by decide +kernel
theorem dL_law_1007 : decode bL_law.2.1 1007 = .ok (.iadd, 1) := by decide +kernel
theorem dL_law_1008 : decode bL_law.2.1 1008 = .ok (.iaload, 1) := by decide +kernel
theorem dL_law_1009 : decode bL_law.2.1 1009 = .ok (.aload_n 0, 1) := by decide +kernel
theorem dL_law_1010 : decode bL_law.2.1 1010 = .ok (.iload 4, 2) := by decide +kernel
theorem dL_law_1012 : decode bL_law.2.1 1012 = .ok (.iconst 2, 1) := by decide +kernel
theorem dL_law_1013 : decode bL_law.2.1 1013 = .ok (.iadd, 1) := by decide +kernel
theorem dL_law_1014 : decode bL_law.2.1 1014 = .ok (.iaload, 1) := by decide +kernel
theorem dL_law_1015 : decode bL_law.2.1 1015 = .ok (.invokevirtual 126, 3) := by decide +kernel
theorem dL_law_1018 : decode bL_law.2.1 1018 = .ok (.aload_n 2, 1) := by decide +kernel
theorem dL_law_1019 : decode bL_law.2.1 1019 = .ok (.aload_n 0, 1) := by decide +kernel
theorem dL_law_1020 : decode bL_law.2.1 1020 = .ok (.iload 4, 2) := by decide +kernel
theorem dL_law_1022 : decode bL_law.2.1 1022 = .ok (.iconst 1, 1) := by decide +kernel
theorem dL_law_1023 : decode bL_law.2.1 1023 = .ok (.iadd, 1) := by decide +kernel
theorem dL_law_1024 : decode bL_law.2.1 1024 = .ok (.iaload, 1) := by decide +kernel
theorem dL_law_1025 : decode bL_law.2.1 1025 = .ok (.aload_n 0, 1) := by decide +kernel
theorem dL_law_1026 : decode bL_law.2.1 1026 = .ok (.iload 4, 2) := by decide +kernel
theorem dL_law_1028 : decode bL_law.2.1 1028 = .ok (.iconst 2, 1) := by decide +kernel
theorem dL_law_1029 : decode bL_law.2.1 1029 = .ok (.iadd, 1) := by decide +kernel
theorem dL_law_1030 : decode bL_law.2.1 1030 = .ok (.iaload, 1) := by decide +kernel
theorem dL_law_1031 : decode bL_law.2.1 1031 = .ok (.invokevirtual 129, 3) := by decide +kernel
theorem dL_law_1034 : decode bL_law.2.1 1034 = .ok (.if_icmp .eq 379, 3) := by decide +kernel
theorem dL_law_1037 : decode bL_law.2.1 1037 = .ok (.iconst 0, 1) := by decide +kernel
theorem dL_law_1038 : decode bL_law.2.1 1038 = .ok (.ireturn, 1) := by decide +kernel
theorem dL_law_1039 : decode bL_law.2.1 1039 = .ok (.aload_n 1, 1) := by decide +kernel
theorem dL_law_1040 : decode bL_law.2.1 1040 = .ok (.aload_n 0, 1) := by decide +kernel
theorem dL_law_1041 : decode bL_law.2.1 1041 = .ok (.iload 4, 2) := by decide +kernel
theorem dL_law_1043 : decode bL_law.2.1 1043 = .ok (.iconst 1, 1) := by decide +kernel
theorem dL_law_1044 : decode bL_law.2.1 1044 = .ok (.iadd, 1) := by decide +kernel
theorem dL_law_1045 : decode bL_law.2.1 1045 = .ok (.iaload, 1) := by decide +kernel
theorem dL_law_1046 : decode bL_law.2.1 1046 = .ok (.invokevirtual 130, 3) := by decide +kernel
theorem dL_law_1049 : decode bL_law.2.1 1049 = .ok (.aload_n 2, 1) := by decide +kernel
theorem dL_law_1050 : decode bL_law.2.1 1050 = .ok (.aload_n 0, 1) := by decide +kernel
theorem dL_law_1051 : decode bL_law.2.1 1051 = .ok (.iload 4, 2) := by decide +kernel
theorem dL_law_1053 : decode bL_law.2.1 1053 = .ok (.iconst 1, 1) := by decide +kernel
theorem dL_law_1054 : decode bL_law.2.1 1054 = .ok (.iadd, 1) := by decide +kernel
theorem dL_law_1055 : decode bL_law.2.1 1055 = .ok (.iaload, 1) := by decide +kernel
theorem dL_law_1056 : decode bL_law.2.1 1056 = .ok (.invokevirtual 133, 3) := by decide +kernel
theorem dL_law_1059 : decode bL_law.2.1 1059 = .ok (.if_icmp .eq 354, 3) := by decide +kernel
theorem dL_law_1062 : decode bL_law.2.1 1062 = .ok (.iconst 0, 1) := by decide +kernel
theorem dL_law_1063 : decode bL_law.2.1 1063 = .ok (.ireturn, 1) := by decide +kernel
theorem dL_law_1064 : decode bL_law.2.1 1064 = .ok (.aload_n 1, 1) := by decide +kernel
theorem dL_law_1065 : decode bL_law.2.1 1065 = .ok (.aload_n 0, 1) := by decide +kernel
theorem dL_law_1066 : decode bL_law.2.1 1066 = .ok (.iload 4, 2) := by decide +kernel
theorem dL_law_1068 : decode bL_law.2.1 1068 = .ok (.iconst 1, 1) := by decide +kernel
theorem dL_law_1069 : decode bL_law.2.1 1069 = .ok (.iadd, 1) := by decide +kernel
theorem dL_law_1070 : decode bL_law.2.1 1070 = .ok (.iaload, 1) := by decide +kernel
theorem dL_law_1071 : decode bL_law.2.1 1071 = .ok (.invokevirtual 134, 3) := by decide +kernel
theorem dL_law_1074 : decode bL_law.2.1 1074 = .ok (.aload_n 2, 1) := by decide +kernel
theorem dL_law_1075 : decode bL_law.2.1 1075 = .ok (.aload_n 0, 1) := by decide +kernel
theorem dL_law_1076 : decode bL_law.2.1 1076 = .ok (.iload 4, 2) := by decide +kernel
theorem dL_law_1078 : decode bL_law.2.1 1078 = .ok (.iconst 1, 1) := by decide +kernel
theorem dL_law_1079 : decode bL_law.2.1 1079 = .ok (.iadd, 1) := by decide +kernel
theorem dL_law_1080 : decode bL_law.2.1 1080 = .ok (.iaload, 1) := by decide +kernel
theorem dL_law_1081 : decode bL_law.2.1 1081 = .ok (.invokevirtual 137, 3) := by decide +kernel
theorem dL_law_1084 : decode bL_law.2.1 1084 = .ok (.if_icmp .eq 329, 3) := by decide +kernel
theorem dL_law_1087 : decode bL_law.2.1 1087 = .ok (.iconst 0, 1) := by decide +kernel
theorem dL_law_1088 : decode bL_law.2.1 1088 = .ok (.ireturn, 1) := by decide +kernel
theorem dL_law_1089 : decode bL_law.2.1 1089 = .ok (.aload_n 1, 1) := by decide +kernel
theorem dL_law_1090 : decode bL_law.2.1 1090 = .ok (.aload_n 0, 1) := by decide +kernel
theorem dL_law_1091 : decode bL_law.2.1 1091 = .ok (.iload 4, 2) := by decide +kernel
theorem dL_law_1093 : decode bL_law.2.1 1093 = .ok (.iconst 1, 1) := by decide +kernel
theorem dL_law_1094 : decode bL_law.2.1 1094 = .ok (.iadd, 1) := by decide +kernel
theorem dL_law_1095 : decode bL_law.2.1 1095 = .ok (.iaload, 1) := by decide +kernel
theorem dL_law_1096 : decode bL_law.2.1 1096 = .ok (.aload_n 0, 1) := by decide +kernel
theorem dL_law_1097 : decode bL_law.2.1 1097 = .ok (.iload 4, 2) := by decide +kernel
theorem dL_law_1099 : decode bL_law.2.1 1099 = .ok (.iconst 2, 1) := by decide +kernel
theorem dL_law_1100 : decode bL_law.2.1 1100 = .ok (.iadd, 1) := by decide +kernel
theorem dL_law_1101 : decode bL_law.2.1 1101 = .ok (.iaload, 1) := by decide +kernel
theorem dL_law_1102 : decode bL_law.2.1 1102 = .ok (.invokevirtual 138, 3) := by decide +kernel
theorem dL_law_1105 : decode bL_law.2.1 1105 = .ok (.aload_n 2, 1) := by decide +kernel
theorem dL_law_1106 : decode bL_law.2.1 1106 = .ok (.aload_n 0, 1) := by decide +kernel
theorem dL_law_1107 : decode bL_law.2.1 1107 = .ok (.iload 4, 2) := by decide +kernel
theorem dL_law_1109 : decode bL_law.2.1 1109 = .ok (.iconst 1, 1) := by decide +kernel
theorem dL_law_1110 : decode bL_law.2.1 1110 = .ok (.iadd, 1) := by decide +kernel
theorem dL_law_1111 : decode bL_law.2.1 1111 = .ok (.iaload, 1) := by decide +kernel
theorem dL_law_1112 : decode bL_law.2.1 1112 = .ok (.aload_n 0, 1) := by decide +kernel
theorem dL_law_1113 : decode bL_law.2.1 1113 = .ok (.iload 4, 2) := by decide +kernel
theorem dL_law_1115 : decode bL_law.2.1 1115 = .ok (.iconst 2, 1) := by decide +kernel
theorem dL_law_1116 : decode bL_law.2.1 1116 = .ok (.iadd, 1) := by decide +kernel
theorem dL_law_1117 : decode bL_law.2.1 1117 = .ok (.iaload, 1) := by decide +kernel
theorem dL_law_1118 : decode bL_law.2.1 1118 = .ok (.invokevirtual 141, 3) := by decide +kernel
theorem dL_law_1121 : decode bL_law.2.1 1121 = .ok (.if_icmp .eq 292, 3) := by decide +kernel
theorem dL_law_1124 : decode bL_law.2.1 1124 = .ok (.iconst 0, 1) := by decide +kernel
theorem dL_law_1125 : decode bL_law.2.1 1125 = .ok (.ireturn, 1) := by decide +kernel
theorem dL_law_1126 : decode bL_law.2.1 1126 = .ok (.aload_n 1, 1) := by decide +kernel
theorem dL_law_1127 : decode bL_law.2.1 1127 = .ok (.aload_n 0, 1) := by decide +kernel
theorem dL_law_1128 : decode bL_law.2.1 1128 = .ok (.iload 4, 2) := by decide +kernel
theorem dL_law_1130 : decode bL_law.2.1 1130 = .ok (.iconst 1, 1) := by decide +kernel
theorem dL_law_1131 : decode bL_law.2.1 1131 = .ok (.iadd, 1) := by decide +kernel
theorem dL_law_1132 : decode bL_law.2.1 1132 = .ok (.iaload, 1) := by decide +kernel
theorem dL_law_1133 : decode bL_law.2.1 1133 = .ok (.aload_n 0, 1) := by decide +kernel
theorem dL_law_1134 : decode bL_law.2.1 1134 = .ok (.iload 4, 2) := by decide +kernel
theorem dL_law_1136 : decode bL_law.2.1 1136 = .ok (.iconst 2, 1) := by decide +kernel
theorem dL_law_1137 : decode bL_law.2.1 1137 = .ok (.iadd, 1) := by decide +kernel
theorem dL_law_1138 : decode bL_law.2.1 1138 = .ok (.iaload, 1) := by decide +kernel
theorem dL_law_1139 : decode bL_law.2.1 1139 = .ok (.invokevirtual 142, 3) := by decide +kernel
theorem dL_law_1142 : decode bL_law.2.1 1142 = .ok (.aload_n 2, 1) := by decide +kernel
theorem dL_law_1143 : decode bL_law.2.1 1143 = .ok (.aload_n 0, 1) := by decide +kernel
theorem dL_law_1144 : decode bL_law.2.1 1144 = .ok (.iload 4, 2) := by decide +kernel
theorem dL_law_1146 : decode bL_law.2.1 1146 = .ok (.iconst 1, 1) := by decide +kernel
theorem dL_law_1147 : decode bL_law.2.1 1147 = .ok (.iadd, 1) := by decide +kernel
theorem dL_law_1148 : decode bL_law.2.1 1148 = .ok (.iaload, 1) := by decide +kernel
theorem dL_law_1149 : decode bL_law.2.1 1149 = .ok (.aload_n 0, 1) := by decide +kernel
theorem dL_law_1150 : decode bL_law.2.1 1150 = .ok (.iload 4, 2) := by decide +kernel
theorem dL_law_1152 : decode bL_law.2.1 1152 = .ok (.iconst 2, 1) := by decide +kernel
theorem dL_law_1153 : decode bL_law.2.1 1153 = .ok (.iadd, 1) := by decide +kernel
theorem dL_law_1154 : decode bL_law.2.1 1154 = .ok (.iaload, 1) := by decide +kernel
theorem dL_law_1155 : decode bL_law.2.1 1155 = .ok (.invokevirtual 145, 3) := by decide +kernel
theorem dL_law_1158 : decode bL_law.2.1 1158 = .ok (.if_icmp .eq 255, 3) := by decide +kernel
theorem dL_law_1161 : decode bL_law.2.1 1161 = .ok (.iconst 0, 1) := by decide +kernel
theorem dL_law_1162 : decode bL_law.2.1 1162 = .ok (.ireturn, 1) := by decide +kernel
theorem dL_law_1163 : decode bL_law.2.1 1163 = .ok (.aload_n 1, 1) := by decide +kernel
theorem dL_law_1164 : decode bL_law.2.1 1164 = .ok (.aload_n 0, 1) := by decide +kernel
theorem dL_law_1165 : decode bL_law.2.1 1165 = .ok (.iload 4, 2) := by decide +kernel
theorem dL_law_1167 : decode bL_law.2.1 1167 = .ok (.iconst 1, 1) := by decide +kernel
theorem dL_law_1168 : decode bL_law.2.1 1168 = .ok (.iadd, 1) := by decide +kernel
theorem dL_law_1169 : decode bL_law.2.1 1169 = .ok (.iaload, 1) := by decide +kernel
theorem dL_law_1170 : decode bL_law.2.1 1170 = .ok (.aload_n 0, 1) := by decide +kernel
theorem dL_law_1171 : decode bL_law.2.1 1171 = .ok (.iload 4, 2) := by decide +kernel
theorem dL_law_1173 : decode bL_law.2.1 1173 = .ok (.iconst 2, 1) := by decide +kernel
theorem dL_law_1174 : decode bL_law.2.1 1174 = .ok (.iadd, 1) := by decide +kernel
theorem dL_law_1175 : decode bL_law.2.1 1175 = .ok (.iaload, 1) := by decide +kernel
theorem dL_law_1176 : decode bL_law.2.1 1176 = .ok (.invokevirtual 146, 3) := by decide +kernel
theorem dL_law_1179 : decode bL_law.2.1 1179 = .ok (.aload_n 2, 1) := by decide +kernel
theorem dL_law_1180 : decode bL_law.2.1 1180 = .ok (.aload_n 0, 1) := by decide +kernel
theorem dL_law_1181 : decode bL_law.2.1 1181 = .ok (.iload 4, 2) := by decide +kernel
theorem dL_law_1183 : decode bL_law.2.1 1183 = .ok (.iconst 1, 1) := by decide +kernel
theorem dL_law_1184 : decode bL_law.2.1 1184 = .ok (.iadd, 1) := by decide +kernel
theorem dL_law_1185 : decode bL_law.2.1 1185 = .ok (.iaload, 1) := by decide +kernel
theorem dL_law_1186 : decode bL_law.2.1 1186 = .ok (.aload_n 0, 1) := by decide +kernel
theorem dL_law_1187 : decode bL_law.2.1 1187 = .ok (.iload 4, 2) := by decide +kernel
theorem dL_law_1189 : decode bL_law.2.1 1189 = .ok (.iconst 2, 1) := by decide +kernel
theorem dL_law_1190 : decode bL_law.2.1 1190 = .ok (.iadd, 1) := by decide +kernel
theorem dL_law_1191 : decode bL_law.2.1 1191 = .ok (.iaload, 1) := by decide +kernel
theorem dL_law_1192 : decode bL_law.2.1 1192 = .ok (.invokevirtual 149, 3) := by decide +kernel
theorem dL_law_1195 : decode bL_law.2.1 1195 = .ok (.if_icmp .eq 218, 3) := by decide +kernel
theorem dL_law_1198 : decode bL_law.2.1 1198 = .ok (.iconst 0, 1) := by decide +kernel
theorem dL_law_1199 : decode bL_law.2.1 1199 = .ok (.ireturn, 1) := by decide +kernel
theorem dL_law_1200 : decode bL_law.2.1 1200 = .ok (.aload_n 1, 1) := by decide +kernel
theorem dL_law_1201 : decode bL_law.2.1 1201 = .ok (.aload_n 0, 1) := by decide +kernel
theorem dL_law_1202 : decode bL_law.2.1 1202 = .ok (.iload 4, 2) := by decide +kernel
theorem dL_law_1204 : decode bL_law.2.1 1204 = .ok (.iconst 1, 1) := by decide +kernel
theorem dL_law_1205 : decode bL_law.2.1 1205 = .ok (.iadd, 1) := by decide +kernel
theorem dL_law_1206 : decode bL_law.2.1 1206 = .ok (.iaload, 1) := by decide +kernel
theorem dL_law_1207 : decode bL_law.2.1 1207 = .ok (.aload_n 0, 1) := by decide +kernel
theorem dL_law_1208 : decode bL_law.2.1 1208 = .ok (.iload 4, 2) := by decide +kernel
theorem dL_law_1210 : decode bL_law.2.1 1210 = .ok (.iconst 2, 1) := by decide +kernel
theorem dL_law_1211 : decode bL_law.2.1 1211 = .ok (.iadd, 1) := by decide +kernel
theorem dL_law_1212 : decode bL_law.2.1 1212 = .ok (.iaload, 1) := by decide +kernel
theorem dL_law_1213 : decode bL_law.2.1 1213 = .ok (.invokevirtual 150, 3) := by decide +kernel
theorem dL_law_1216 : decode bL_law.2.1 1216 = .ok (.aload_n 2, 1) := by decide +kernel
theorem dL_law_1217 : decode bL_law.2.1 1217 = .ok (.aload_n 0, 1) := by decide +kernel
theorem dL_law_1218 : decode bL_law.2.1 1218 = .ok (.iload 4, 2) := by decide +kernel
theorem dL_law_1220 : decode bL_law.2.1 1220 = .ok (.iconst 1, 1) := by decide +kernel
theorem dL_law_1221 : decode bL_law.2.1 1221 = .ok (.iadd, 1) := by decide +kernel
theorem dL_law_1222 : decode bL_law.2.1 1222 = .ok (.iaload, 1) := by decide +kernel
theorem dL_law_1223 : decode bL_law.2.1 1223 = .ok (.aload_n 0, 1) := by decide +kernel
theorem dL_law_1224 : decode bL_law.2.1 1224 = .ok (.iload 4, 2) := by decide +kernel
theorem dL_law_1226 : decode bL_law.2.1 1226 = .ok (.iconst 2, 1) := by decide +kernel
theorem dL_law_1227 : decode bL_law.2.1 1227 = .ok (.iadd, 1) := by decide +kernel
theorem dL_law_1228 : decode bL_law.2.1 1228 = .ok (.iaload, 1) := by decide +kernel
theorem dL_law_1229 : decode bL_law.2.1 1229 = .ok (.invokevirtual 153, 3) := by decide +kernel
theorem dL_law_1232 : decode bL_law.2.1 1232 = .ok (.if_icmp .eq 181, 3) := by decide +kernel
theorem dL_law_1235 : decode bL_law.2.1 1235 = .ok (.iconst 0, 1) := by decide +kernel
theorem dL_law_1236 : decode bL_law.2.1 1236 = .ok (.ireturn, 1) := by decide +kernel
theorem dL_law_1237 : decode bL_law.2.1 1237 = .ok (.aload_n 1, 1) := by decide +kernel
theorem dL_law_1238 : decode bL_law.2.1 1238 = .ok (.aload_n 0, 1) := by decide +kernel
theorem dL_law_1239 : decode bL_law.2.1 1239 = .ok (.iload 4, 2) := by decide +kernel
theorem dL_law_1241 : decode bL_law.2.1 1241 = .ok (.iconst 1, 1) := by decide +kernel
theorem dL_law_1242 : decode bL_law.2.1 1242 = .ok (.iadd, 1) := by decide +kernel
theorem dL_law_1243 : decode bL_law.2.1 1243 = .ok (.iaload, 1) := by decide +kernel
theorem dL_law_1244 : decode bL_law.2.1 1244 = .ok (.aload_n 0, 1) := by decide +kernel
theorem dL_law_1245 : decode bL_law.2.1 1245 = .ok (.iload 4, 2) := by decide +kernel
theorem dL_law_1247 : decode bL_law.2.1 1247 = .ok (.iconst 2, 1) := by decide +kernel
theorem dL_law_1248 : decode bL_law.2.1 1248 = .ok (.iadd, 1) := by decide +kernel
theorem dL_law_1249 : decode bL_law.2.1 1249 = .ok (.iaload, 1) := by decide +kernel
theorem dL_law_1250 : decode bL_law.2.1 1250 = .ok (.invokevirtual 154, 3) := by decide +kernel
theorem dL_law_1253 : decode bL_law.2.1 1253 = .ok (.aload_n 2, 1) := by decide +kernel
theorem dL_law_1254 : decode bL_law.2.1 1254 = .ok (.aload_n 0, 1) := by decide +kernel
theorem dL_law_1255 : decode bL_law.2.1 1255 = .ok (.iload 4, 2) := by decide +kernel
theorem dL_law_1257 : decode bL_law.2.1 1257 = .ok (.iconst 1, 1) := by decide +kernel
theorem dL_law_1258 : decode bL_law.2.1 1258 = .ok (.iadd, 1) := by decide +kernel
theorem dL_law_1259 : decode bL_law.2.1 1259 = .ok (.iaload, 1) := by decide +kernel
theorem dL_law_1260 : decode bL_law.2.1 1260 = .ok (.aload_n 0, 1) := by decide +kernel
theorem dL_law_1261 : decode bL_law.2.1 1261 = .ok (.iload 4, 2) := by decide +kernel
theorem dL_law_1263 : decode bL_law.2.1 1263 = .ok (.iconst 2, 1) := by decide +kernel
theorem dL_law_1264 : decode bL_law.2.1 1264 = .ok (.iadd, 1) := by decide +kernel
theorem dL_law_1265 : decode bL_law.2.1 1265 = .ok (.iaload, 1) := by decide +kernel
theorem dL_law_1266 : decode bL_law.2.1 1266 = .ok (.invokevirtual 158, 3) := by decide +kernel
theorem dL_law_1269 : decode bL_law.2.1 1269 = .ok (.lcmp, 1) := by decide +kernel
theorem dL_law_1270 : decode bL_law.2.1 1270 = .ok (.ifCond .eq 143, 3) := by decide +kernel
theorem dL_law_1273 : decode bL_law.2.1 1273 = .ok (.iconst 0, 1) := by decide +kernel
theorem dL_law_1274 : decode bL_law.2.1 1274 = .ok (.ireturn, 1) := by decide +kernel
theorem dL_law_1275 : decode bL_law.2.1 1275 = .ok (.aload_n 1, 1) := by decide +kernel
theorem dL_law_1276 : decode bL_law.2.1 1276 = .ok (.aload_n 0, 1) := by decide +kernel
theorem dL_law_1277 : decode bL_law.2.1 1277 = .ok (.iload 4, 2) := by decide +kernel
theorem dL_law_1279 : decode bL_law.2.1 1279 = .ok (.iconst 1, 1) := by decide +kernel
theorem dL_law_1280 : decode bL_law.2.1 1280 = .ok (.iadd, 1) := by decide +kernel
theorem dL_law_1281 : decode bL_law.2.1 1281 = .ok (.iaload, 1) := by decide +kernel
theorem dL_law_1282 : decode bL_law.2.1 1282 = .ok (.aload_n 0, 1) := by decide +kernel
theorem dL_law_1283 : decode bL_law.2.1 1283 = .ok (.iload 4, 2) := by decide +kernel
theorem dL_law_1285 : decode bL_law.2.1 1285 = .ok (.iconst 2, 1) := by decide +kernel
theorem dL_law_1286 : decode bL_law.2.1 1286 = .ok (.iadd, 1) := by decide +kernel
theorem dL_law_1287 : decode bL_law.2.1 1287 = .ok (.iaload, 1) := by decide +kernel
theorem dL_law_1288 : decode bL_law.2.1 1288 = .ok (.invokevirtual 159, 3) := by decide +kernel
theorem dL_law_1291 : decode bL_law.2.1 1291 = .ok (.aload_n 2, 1) := by decide +kernel
theorem dL_law_1292 : decode bL_law.2.1 1292 = .ok (.aload_n 0, 1) := by decide +kernel
theorem dL_law_1293 : decode bL_law.2.1 1293 = .ok (.iload 4, 2) := by decide +kernel
theorem dL_law_1295 : decode bL_law.2.1 1295 = .ok (.iconst 1, 1) := by decide +kernel
theorem dL_law_1296 : decode bL_law.2.1 1296 = .ok (.iadd, 1) := by decide +kernel
theorem dL_law_1297 : decode bL_law.2.1 1297 = .ok (.iaload, 1) := by decide +kernel
theorem dL_law_1298 : decode bL_law.2.1 1298 = .ok (.aload_n 0, 1) := by decide +kernel
theorem dL_law_1299 : decode bL_law.2.1 1299 = .ok (.iload 4, 2) := by decide +kernel
theorem dL_law_1301 : decode bL_law.2.1 1301 = .ok (.iconst 2, 1) := by decide +kernel
theorem dL_law_1302 : decode bL_law.2.1 1302 = .ok (.iadd, 1) := by decide +kernel
theorem dL_law_1303 : decode bL_law.2.1 1303 = .ok (.iaload, 1) := by decide +kernel
theorem dL_law_1304 : decode bL_law.2.1 1304 = .ok (.invokevirtual 162, 3) := by decide +kernel
theorem dL_law_1307 : decode bL_law.2.1 1307 = .ok (.if_icmp .eq 106, 3) := by decide +kernel
theorem dL_law_1310 : decode bL_law.2.1 1310 = .ok (.iconst 0, 1) := by decide +kernel
theorem dL_law_1311 : decode bL_law.2.1 1311 = .ok (.ireturn, 1) := by decide +kernel
theorem dL_law_1312 : decode bL_law.2.1 1312 = .ok (.aload_n 1, 1) := by decide +kernel
theorem dL_law_1313 : decode bL_law.2.1 1313 = .ok (.aload_n 0, 1) := by decide +kernel
theorem dL_law_1314 : decode bL_law.2.1 1314 = .ok (.iload 4, 2) := by decide +kernel
theorem dL_law_1316 : decode bL_law.2.1 1316 = .ok (.iconst 1, 1) := by decide +kernel
theorem dL_law_1317 : decode bL_law.2.1 1317 = .ok (.iadd, 1) := by decide +kernel
theorem dL_law_1318 : decode bL_law.2.1 1318 = .ok (.iaload, 1) := by decide +kernel
theorem dL_law_1319 : decode bL_law.2.1 1319 = .ok (.invokevirtual 163, 3) := by decide +kernel
theorem dL_law_1322 : decode bL_law.2.1 1322 = .ok (.aload_n 2, 1) := by decide +kernel
theorem dL_law_1323 : decode bL_law.2.1 1323 = .ok (.aload_n 0, 1) := by decide +kernel
theorem dL_law_1324 : decode bL_law.2.1 1324 = .ok (.iload 4, 2) := by decide +kernel
theorem dL_law_1326 : decode bL_law.2.1 1326 = .ok (.iconst 1, 1) := by decide +kernel
theorem dL_law_1327 : decode bL_law.2.1 1327 = .ok (.iadd, 1) := by decide +kernel
theorem dL_law_1328 : decode bL_law.2.1 1328 = .ok (.iaload, 1) := by decide +kernel
theorem dL_law_1329 : decode bL_law.2.1 1329 = .ok (.invokevirtual 166, 3) := by decide +kernel
theorem dL_law_1332 : decode bL_law.2.1 1332 = .ok (.if_icmp .eq 81, 3) := by decide +kernel
theorem dL_law_1335 : decode bL_law.2.1 1335 = .ok (.iconst 0, 1) := by decide +kernel
theorem dL_law_1336 : decode bL_law.2.1 1336 = .ok (.ireturn, 1) := by decide +kernel
theorem dL_law_1337 : decode bL_law.2.1 1337 = .ok (.aload_n 1, 1) := by decide +kernel
theorem dL_law_1338 : decode bL_law.2.1 1338 = .ok (.aload_n 0, 1) := by decide +kernel
theorem dL_law_1339 : decode bL_law.2.1 1339 = .ok (.iload 4, 2) := by decide +kernel
theorem dL_law_1341 : decode bL_law.2.1 1341 = .ok (.iconst 1, 1) := by decide +kernel
theorem dL_law_1342 : decode bL_law.2.1 1342 = .ok (.iadd, 1) := by decide +kernel
theorem dL_law_1343 : decode bL_law.2.1 1343 = .ok (.iaload, 1) := by decide +kernel
theorem dL_law_1344 : decode bL_law.2.1 1344 = .ok (.invokevirtual 167, 3) := by decide +kernel
theorem dL_law_1347 : decode bL_law.2.1 1347 = .ok (.aload_n 2, 1) := by decide +kernel
theorem dL_law_1348 : decode bL_law.2.1 1348 = .ok (.aload_n 0, 1) := by decide +kernel
theorem dL_law_1349 : decode bL_law.2.1 1349 = .ok (.iload 4, 2) := by decide +kernel
theorem dL_law_1351 : decode bL_law.2.1 1351 = .ok (.iconst 1, 1) := by decide +kernel
theorem dL_law_1352 : decode bL_law.2.1 1352 = .ok (.iadd, 1) := by decide +kernel
theorem dL_law_1353 : decode bL_law.2.1 1353 = .ok (.iaload, 1) := by decide +kernel
theorem dL_law_1354 : decode bL_law.2.1 1354 = .ok (.invokevirtual 170, 3) := by decide +kernel
theorem dL_law_1357 : decode bL_law.2.1 1357 = .ok (.if_icmp .eq 56, 3) := by decide +kernel
theorem dL_law_1360 : decode bL_law.2.1 1360 = .ok (.iconst 0, 1) := by decide +kernel
theorem dL_law_1361 : decode bL_law.2.1 1361 = .ok (.ireturn, 1) := by decide +kernel
theorem dL_law_1362 : decode bL_law.2.1 1362 = .ok (.aload_n 1, 1) := by decide +kernel
theorem dL_law_1363 : decode bL_law.2.1 1363 = .ok (.invokevirtual 171, 3) := by decide +kernel
theorem dL_law_1366 : decode bL_law.2.1 1366 = .ok (.aload_n 2, 1) := by decide +kernel
theorem dL_law_1367 : decode bL_law.2.1 1367 = .ok (.invokevirtual 174, 3) := by decide +kernel
theorem dL_law_1370 : decode bL_law.2.1 1370 = .ok (.if_icmp .eq 43, 3) := by decide +kernel
theorem dL_law_1373 : decode bL_law.2.1 1373 = .ok (.iconst 0, 1) := by decide +kernel
theorem dL_law_1374 : decode bL_law.2.1 1374 = .ok (.ireturn, 1) := by decide +kernel
theorem dL_law_1375 : decode bL_law.2.1 1375 = .ok (.aload_n 1, 1) := by decide +kernel
theorem dL_law_1376 : decode bL_law.2.1 1376 = .ok (.invokevirtual 175, 3) := by decide +kernel
theorem dL_law_1379 : decode bL_law.2.1 1379 = .ok (.aload_n 2, 1) := by decide +kernel
theorem dL_law_1380 : decode bL_law.2.1 1380 = .ok (.invokevirtual 178, 3) := by decide +kernel
theorem dL_law_1383 : decode bL_law.2.1 1383 = .ok (.if_icmp .eq 30, 3) := by decide +kernel
theorem dL_law_1386 : decode bL_law.2.1 1386 = .ok (.iconst 0, 1) := by decide +kernel
theorem dL_law_1387 : decode bL_law.2.1 1387 = .ok (.ireturn, 1) := by decide +kernel
theorem dL_law_1388 : decode bL_law.2.1 1388 = .ok (.aload_n 1, 1) := by decide +kernel
theorem dL_law_1389 : decode bL_law.2.1 1389 = .ok (.aload_n 0, 1) := by decide +kernel
theorem dL_law_1390 : decode bL_law.2.1 1390 = .ok (.iload 4, 2) := by decide +kernel
theorem dL_law_1392 : decode bL_law.2.1 1392 = .ok (.iconst 1, 1) := by decide +kernel
theorem dL_law_1393 : decode bL_law.2.1 1393 = .ok (.iadd, 1) := by decide +kernel
theorem dL_law_1394 : decode bL_law.2.1 1394 = .ok (.iaload, 1) := by decide +kernel
theorem dL_law_1395 : decode bL_law.2.1 1395 = .ok (.invokevirtual 179, 3) := by decide +kernel
theorem dL_law_1398 : decode bL_law.2.1 1398 = .ok (.aload_n 2, 1) := by decide +kernel
theorem dL_law_1399 : decode bL_law.2.1 1399 = .ok (.aload_n 0, 1) := by decide +kernel
theorem dL_law_1400 : decode bL_law.2.1 1400 = .ok (.iload 4, 2) := by decide +kernel
theorem dL_law_1402 : decode bL_law.2.1 1402 = .ok (.iconst 1, 1) := by decide +kernel
theorem dL_law_1403 : decode bL_law.2.1 1403 = .ok (.iadd, 1) := by decide +kernel
theorem dL_law_1404 : decode bL_law.2.1 1404 = .ok (.iaload, 1) := by decide +kernel
theorem dL_law_1405 : decode bL_law.2.1 1405 = .ok (.invokevirtual 182, 3) := by decide +kernel
theorem dL_law_1408 : decode bL_law.2.1 1408 = .ok (.if_icmp .eq 5, 3) := by decide +kernel
theorem dL_law_1411 : decode bL_law.2.1 1411 = .ok (.iconst 0, 1) := by decide +kernel
theorem dL_law_1412 : decode bL_law.2.1 1412 = .ok (.ireturn, 1) := by decide +kernel
theorem dL_law_1413 : decode bL_law.2.1 1413 = .ok (.iinc 4 6, 3) := by decide +kernel
theorem dL_law_1416 : decode bL_law.2.1 1416 = .ok (.goto (-1393), 3) := by decide +kernel
theorem dL_law_1419 : decode bL_law.2.1 1419 = .ok (.iconst 1, 1) := by decide +kernel
theorem dL_law_1420 : decode bL_law.2.1 1420 = .ok (.ireturn, 1) := by decide +kernel
