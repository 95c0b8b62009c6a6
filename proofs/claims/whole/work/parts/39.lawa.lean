theorem d_law_0 : decode code 0 = .ok (.new 7, 3) := by decide +kernel
theorem d_law_3 : decode code 3 = .ok (.dup, 1) := by decide +kernel
theorem d_law_4 : decode code 4 = .ok (.invokespecial 9, 3) := by decide +kernel
theorem d_law_7 : decode code 7 = .ok (.astore_n 1, 1) := by decide +kernel
theorem d_law_8 : decode code 8 = .ok (.new 10, 3) := by decide +kernel
theorem d_law_11 : decode code 11 = .ok (.dup, 1) := by decide +kernel
theorem d_law_12 : decode code 12 = .ok (.invokespecial 12, 3) := by decide +kernel
theorem d_law_15 : decode code 15 = .ok (.astore_n 2, 1) := by decide +kernel
theorem d_law_16 : decode code 16 = .ok (.iconst 0, 1) := by decide +kernel
theorem d_law_17 : decode code 17 = .ok (.istore_n 3, 1) := by decide +kernel
theorem d_law_18 : decode code 18 = .ok (.iload_n 3, 1) := by decide +kernel
theorem d_law_19 : decode code 19 = .ok (.aload_n 0, 1) := by decide +kernel
theorem d_law_20 : decode code 20 = .ok (.arraylength, 1) := by decide +kernel
theorem d_law_21 : decode code 21 = .ok (.bipush 6, 2) := by decide +kernel
theorem d_law_23 : decode code 23 = .ok (.isub, 1) := by decide +kernel
theorem d_law_24 : decode code 24 = .ok (.if_icmp .gt 1601, 3) := by decide +kernel
theorem d_law_1625 : decode code 1625 = .ok (.iconst 1, 1) := by decide +kernel
theorem d_law_1626 : decode code 1626 = .ok (.ireturn, 1) := by decide +kernel
theorem d_law_27 : decode code 27 = .ok (.aload_n 0, 1) := by decide +kernel
theorem d_law_28 : decode code 28 = .ok (.iload_n 3, 1) := by decide +kernel
theorem d_law_29 : decode code 29 = .ok (.iaload, 1) := by decide +kernel
theorem d_law_30 : decode code 30 = .ok (.bipush 63, 2) := by decide +kernel
theorem d_law_32 : decode code 32 = .ok (.iand, 1) := by decide +kernel
theorem d_law_33 : decode code 33 = .ok (.tableswitch 1586 0 45 #[199, 212, 226, 240, 283, 356, 390, 453, 516, 539, 562, 585, 608, 641, 664, 697, 720, 743, 792, 805, 818, 851, 884, 907, 940, 963, 976, 999, 1032, 1065, 1098, 1131, 1174, 1217, 1270, 1313, 1336, 1359, 1392, 1435, 1458, 1481, 1504, 1527, 1560, 1573], 199) := by decide +kernel
theorem d_law_232 : decode code 232 = .ok (.aload_n 1, 1) := by decide +kernel
theorem d_law_233 : decode code 233 = .ok (.invokevirtual 13, 3) := by decide +kernel
theorem lk_Lw_13 : Cond.methodLink "MaypoleGreenLaw" 13 m_Mg_status.1 ∈ aw_T := aw_in 481 (by decide +kernel) rfl
theorem in_Mg_status : Cond.instanceMethod m_Mg_status.1 ∈ aw_T := aw_in 482 (by decide +kernel) rfl
theorem se_Mg_status : Cond.selects m_Mg_status.1.cls m_Mg_status.1 m_Mg_status.1 ∈ aw_T := aw_in 483 (by decide +kernel) rfl
theorem d_law_236 : decode code 236 = .ok (.aload_n 2, 1) := by decide +kernel
theorem d_law_237 : decode code 237 = .ok (.invokevirtual 17, 3) := by decide +kernel
theorem lk_Lw_17 : Cond.methodLink "MaypoleGreenLaw" 17 m_Md_status.1 ∈ aw_T := aw_in 1412 (by decide +kernel) rfl
theorem in_Md_status : Cond.instanceMethod m_Md_status.1 ∈ aw_T := aw_in 1413 (by decide +kernel) rfl
theorem se_Md_status : Cond.selects m_Md_status.1.cls m_Md_status.1 m_Md_status.1 ∈ aw_T := aw_in 1414 (by decide +kernel) rfl
theorem d_law_240 : decode code 240 = .ok (.if_icmp .eq 1379, 3) := by decide +kernel
theorem d_law_243 : decode code 243 = .ok (.iconst 0, 1) := by decide +kernel
theorem d_law_244 : decode code 244 = .ok (.ireturn, 1) := by decide +kernel
theorem d_law_245 : decode code 245 = .ok (.aload_n 1, 1) := by decide +kernel
theorem d_law_246 : decode code 246 = .ok (.invokevirtual 18, 3) := by decide +kernel
theorem lk_Lw_18 : Cond.methodLink "MaypoleGreenLaw" 18 m_Mg_top.1 ∈ aw_T := aw_in 485 (by decide +kernel) rfl
theorem in_Mg_top : Cond.instanceMethod m_Mg_top.1 ∈ aw_T := aw_in 486 (by decide +kernel) rfl
theorem se_Mg_top : Cond.selects m_Mg_top.1.cls m_Mg_top.1 m_Mg_top.1 ∈ aw_T := aw_in 487 (by decide +kernel) rfl
theorem d_law_249 : decode code 249 = .ok (.aload_n 2, 1) := by decide +kernel
theorem d_law_250 : decode code 250 = .ok (.invokevirtual 22, 3) := by decide +kernel
theorem lk_Lw_22 : Cond.methodLink "MaypoleGreenLaw" 22 m_Md_top.1 ∈ aw_T := aw_in 1416 (by decide +kernel) rfl
theorem in_Md_top : Cond.instanceMethod m_Md_top.1 ∈ aw_T := aw_in 1417 (by decide +kernel) rfl
theorem se_Md_top : Cond.selects m_Md_top.1.cls m_Md_top.1 m_Md_top.1 ∈ aw_T := aw_in 1418 (by decide +kernel) rfl
theorem d_law_253 : decode code 253 = .ok (.lcmp, 1) := by decide +kernel
theorem d_law_254 : decode code 254 = .ok (.ifCond .eq 1365, 3) := by decide +kernel
theorem d_law_257 : decode code 257 = .ok (.iconst 0, 1) := by decide +kernel
theorem d_law_258 : decode code 258 = .ok (.ireturn, 1) := by decide +kernel
theorem d_law_259 : decode code 259 = .ok (.aload_n 1, 1) := by decide +kernel
theorem d_law_260 : decode code 260 = .ok (.invokevirtual 23, 3) := by decide +kernel
theorem lk_Lw_23 : Cond.methodLink "MaypoleGreenLaw" 23 m_Mg_bottom.1 ∈ aw_T := aw_in 489 (by decide +kernel) rfl
theorem in_Mg_bottom : Cond.instanceMethod m_Mg_bottom.1 ∈ aw_T := aw_in 490 (by decide +kernel) rfl
theorem se_Mg_bottom : Cond.selects m_Mg_bottom.1.cls m_Mg_bottom.1 m_Mg_bottom.1 ∈ aw_T := aw_in 491 (by decide +kernel) rfl
theorem d_law_263 : decode code 263 = .ok (.aload_n 2, 1) := by decide +kernel
theorem d_law_264 : decode code 264 = .ok (.invokevirtual 26, 3) := by decide +kernel
theorem lk_Lw_26 : Cond.methodLink "MaypoleGreenLaw" 26 m_Md_bottom.1 ∈ aw_T := aw_in 1420 (by decide +kernel) rfl
theorem in_Md_bottom : Cond.instanceMethod m_Md_bottom.1 ∈ aw_T := aw_in 1421 (by decide +kernel) rfl
theorem se_Md_bottom : Cond.selects m_Md_bottom.1.cls m_Md_bottom.1 m_Md_bottom.1 ∈ aw_T := aw_in 1422 (by decide +kernel) rfl
theorem d_law_267 : decode code 267 = .ok (.lcmp, 1) := by decide +kernel
theorem d_law_268 : decode code 268 = .ok (.ifCond .eq 1351, 3) := by decide +kernel
theorem d_law_271 : decode code 271 = .ok (.iconst 0, 1) := by decide +kernel
theorem d_law_272 : decode code 272 = .ok (.ireturn, 1) := by decide +kernel
theorem d_law_273 : decode code 273 = .ok (.aload_n 1, 1) := by decide +kernel
theorem d_law_274 : decode code 274 = .ok (.aload_n 0, 1) := by decide +kernel
theorem d_law_275 : decode code 275 = .ok (.iload_n 3, 1) := by decide +kernel
theorem d_law_276 : decode code 276 = .ok (.iconst 1, 1) := by decide +kernel
theorem d_law_277 : decode code 277 = .ok (.iadd, 1) := by decide +kernel
theorem d_law_278 : decode code 278 = .ok (.iaload, 1) := by decide +kernel
theorem d_law_279 : decode code 279 = .ok (.aload_n 0, 1) := by decide +kernel
theorem d_law_280 : decode code 280 = .ok (.iload_n 3, 1) := by decide +kernel
theorem d_law_281 : decode code 281 = .ok (.iconst 2, 1) := by decide +kernel
theorem d_law_282 : decode code 282 = .ok (.iadd, 1) := by decide +kernel
theorem d_law_283 : decode code 283 = .ok (.iaload, 1) := by decide +kernel
theorem d_law_284 : decode code 284 = .ok (.aload_n 0, 1) := by decide +kernel
theorem d_law_285 : decode code 285 = .ok (.iload_n 3, 1) := by decide +kernel
theorem d_law_286 : decode code 286 = .ok (.iconst 3, 1) := by decide +kernel
theorem d_law_287 : decode code 287 = .ok (.iadd, 1) := by decide +kernel
theorem d_law_288 : decode code 288 = .ok (.iaload, 1) := by decide +kernel
theorem d_law_289 : decode code 289 = .ok (.invokevirtual 27, 3) := by decide +kernel
theorem lk_Lw_27 : Cond.methodLink "MaypoleGreenLaw" 27 m_Mg_tray.1 ∈ aw_T := aw_in 493 (by decide +kernel) rfl
theorem in_Mg_tray : Cond.instanceMethod m_Mg_tray.1 ∈ aw_T := aw_in 494 (by decide +kernel) rfl
theorem se_Mg_tray : Cond.selects m_Mg_tray.1.cls m_Mg_tray.1 m_Mg_tray.1 ∈ aw_T := aw_in 495 (by decide +kernel) rfl
theorem d_law_292 : decode code 292 = .ok (.aload_n 2, 1) := by decide +kernel
theorem d_law_293 : decode code 293 = .ok (.aload_n 0, 1) := by decide +kernel
theorem d_law_294 : decode code 294 = .ok (.iload_n 3, 1) := by decide +kernel
theorem d_law_295 : decode code 295 = .ok (.iconst 1, 1) := by decide +kernel
theorem d_law_296 : decode code 296 = .ok (.iadd, 1) := by decide +kernel
theorem d_law_297 : decode code 297 = .ok (.iaload, 1) := by decide +kernel
theorem d_law_298 : decode code 298 = .ok (.aload_n 0, 1) := by decide +kernel
theorem d_law_299 : decode code 299 = .ok (.iload_n 3, 1) := by decide +kernel
theorem d_law_300 : decode code 300 = .ok (.iconst 2, 1) := by decide +kernel
theorem d_law_301 : decode code 301 = .ok (.iadd, 1) := by decide +kernel
theorem d_law_302 : decode code 302 = .ok (.iaload, 1) := by decide +kernel
theorem d_law_303 : decode code 303 = .ok (.aload_n 0, 1) := by decide +kernel
theorem d_law_304 : decode code 304 = .ok (.iload_n 3, 1) := by decide +kernel
theorem d_law_305 : decode code 305 = .ok (.iconst 3, 1) := by decide +kernel
theorem d_law_306 : decode code 306 = .ok (.iadd, 1) := by decide +kernel
theorem d_law_307 : decode code 307 = .ok (.iaload, 1) := by decide +kernel
theorem d_law_308 : decode code 308 = .ok (.invokevirtual 31, 3) := by decide +kernel
theorem lk_Lw_31 : Cond.methodLink "MaypoleGreenLaw" 31 m_Md_tray.1 ∈ aw_T := aw_in 1424 (by decide +kernel) rfl
theorem in_Md_tray : Cond.instanceMethod m_Md_tray.1 ∈ aw_T := aw_in 1425 (by decide +kernel) rfl
theorem se_Md_tray : Cond.selects m_Md_tray.1.cls m_Md_tray.1 m_Md_tray.1 ∈ aw_T := aw_in 1426 (by decide +kernel) rfl
theorem d_law_311 : decode code 311 = .ok (.if_icmp .eq 1308, 3) := by decide +kernel
theorem d_law_314 : decode code 314 = .ok (.iconst 0, 1) := by decide +kernel
theorem d_law_315 : decode code 315 = .ok (.ireturn, 1) := by decide +kernel
theorem d_law_316 : decode code 316 = .ok (.aload_n 1, 1) := by decide +kernel
theorem d_law_317 : decode code 317 = .ok (.aload_n 0, 1) := by decide +kernel
theorem d_law_318 : decode code 318 = .ok (.iload_n 3, 1) := by decide +kernel
theorem d_law_319 : decode code 319 = .ok (.iconst 1, 1) := by decide +kernel
theorem d_law_320 : decode code 320 = .ok (.iadd, 1) := by decide +kernel
theorem d_law_321 : decode code 321 = .ok (.iaload, 1) := by decide +kernel
theorem d_law_322 : decode code 322 = .ok (.aload_n 0, 1) := by decide +kernel
theorem d_law_323 : decode code 323 = .ok (.iload_n 3, 1) := by decide +kernel
theorem d_law_324 : decode code 324 = .ok (.iconst 2, 1) := by decide +kernel
theorem d_law_325 : decode code 325 = .ok (.iadd, 1) := by decide +kernel
theorem d_law_326 : decode code 326 = .ok (.iaload, 1) := by decide +kernel
theorem d_law_327 : decode code 327 = .ok (.aload_n 0, 1) := by decide +kernel
theorem d_law_328 : decode code 328 = .ok (.iload_n 3, 1) := by decide +kernel
theorem d_law_329 : decode code 329 = .ok (.iconst 3, 1) := by decide +kernel
theorem d_law_330 : decode code 330 = .ok (.iadd, 1) := by decide +kernel
theorem d_law_331 : decode code 331 = .ok (.iaload, 1) := by decide +kernel
theorem d_law_332 : decode code 332 = .ok (.i2l, 1) := by decide +kernel
theorem d_law_333 : decode code 333 = .ok (.bipush 32, 2) := by decide +kernel
theorem d_law_335 : decode code 335 = .ok (.lshl, 1) := by decide +kernel
theorem d_law_336 : decode code 336 = .ok (.aload_n 0, 1) := by decide +kernel
theorem d_law_337 : decode code 337 = .ok (.iload_n 3, 1) := by decide +kernel
theorem d_law_338 : decode code 338 = .ok (.iconst 4, 1) := by decide +kernel
theorem d_law_339 : decode code 339 = .ok (.iadd, 1) := by decide +kernel
theorem d_law_340 : decode code 340 = .ok (.iaload, 1) := by decide +kernel
theorem d_law_341 : decode code 341 = .ok (.i2l, 1) := by decide +kernel
theorem d_law_342 : decode code 342 = .ok (.ldc2_w 32, 3) := by decide +kernel
theorem cl_Lw_32 : Cond.constantLong "MaypoleGreenLaw" 32 (4294967295) ∈ aw_T := aw_in 1994 (by decide +kernel) rfl
theorem d_law_345 : decode code 345 = .ok (.land, 1) := by decide +kernel
theorem d_law_346 : decode code 346 = .ok (.lor, 1) := by decide +kernel
theorem d_law_347 : decode code 347 = .ok (.invokevirtual 34, 3) := by decide +kernel
theorem lk_Lw_34 : Cond.methodLink "MaypoleGreenLaw" 34 m_Mg_write.1 ∈ aw_T := aw_in 518 (by decide +kernel) rfl
theorem in_Mg_write : Cond.instanceMethod m_Mg_write.1 ∈ aw_T := aw_in 519 (by decide +kernel) rfl
theorem se_Mg_write : Cond.selects m_Mg_write.1.cls m_Mg_write.1 m_Mg_write.1 ∈ aw_T := aw_in 520 (by decide +kernel) rfl
theorem d_law_350 : decode code 350 = .ok (.aload_n 2, 1) := by decide +kernel
theorem d_law_351 : decode code 351 = .ok (.aload_n 0, 1) := by decide +kernel
theorem d_law_352 : decode code 352 = .ok (.iload_n 3, 1) := by decide +kernel
theorem d_law_353 : decode code 353 = .ok (.iconst 1, 1) := by decide +kernel
theorem d_law_354 : decode code 354 = .ok (.iadd, 1) := by decide +kernel
theorem d_law_355 : decode code 355 = .ok (.iaload, 1) := by decide +kernel
theorem d_law_356 : decode code 356 = .ok (.aload_n 0, 1) := by decide +kernel
theorem d_law_357 : decode code 357 = .ok (.iload_n 3, 1) := by decide +kernel
theorem d_law_358 : decode code 358 = .ok (.iconst 2, 1) := by decide +kernel
theorem d_law_359 : decode code 359 = .ok (.iadd, 1) := by decide +kernel
theorem d_law_360 : decode code 360 = .ok (.iaload, 1) := by decide +kernel
theorem d_law_361 : decode code 361 = .ok (.aload_n 0, 1) := by decide +kernel
theorem d_law_362 : decode code 362 = .ok (.iload_n 3, 1) := by decide +kernel
theorem d_law_363 : decode code 363 = .ok (.iconst 3, 1) := by decide +kernel
theorem d_law_364 : decode code 364 = .ok (.iadd, 1) := by decide +kernel
theorem d_law_365 : decode code 365 = .ok (.iaload, 1) := by decide +kernel
theorem d_law_366 : decode code 366 = .ok (.i2l, 1) := by decide +kernel
theorem d_law_367 : decode code 367 = .ok (.bipush 32, 2) := by decide +kernel
theorem d_law_369 : decode code 369 = .ok (.lshl, 1) := by decide +kernel
theorem d_law_370 : decode code 370 = .ok (.aload_n 0, 1) := by decide +kernel
theorem d_law_371 : decode code 371 = .ok (.iload_n 3, 1) := by decide +kernel
theorem d_law_372 : decode code 372 = .ok (.iconst 4, 1) := by decide +kernel
theorem d_law_373 : decode code 373 = .ok (.iadd, 1) := by decide +kernel
theorem d_law_374 : decode code 374 = .ok (.iaload, 1) := by decide +kernel
theorem d_law_375 : decode code 375 = .ok (.i2l, 1) := by decide +kernel
theorem d_law_376 : decode code 376 = .ok (.ldc2_w 32, 3) := by decide +kernel
theorem d_law_379 : decode code 379 = .ok (.land, 1) := by decide +kernel
theorem d_law_380 : decode code 380 = .ok (.lor, 1) := by decide +kernel
theorem d_law_381 : decode code 381 = .ok (.invokevirtual 38, 3) := by decide +kernel
theorem lk_Lw_38 : Cond.methodLink "MaypoleGreenLaw" 38 m_Md_write.1 ∈ aw_T := aw_in 1435 (by decide +kernel) rfl
theorem in_Md_write : Cond.instanceMethod m_Md_write.1 ∈ aw_T := aw_in 1436 (by decide +kernel) rfl
theorem se_Md_write : Cond.selects m_Md_write.1.cls m_Md_write.1 m_Md_write.1 ∈ aw_T := aw_in 1437 (by decide +kernel) rfl
theorem d_law_384 : decode code 384 = .ok (.if_icmp .eq 1235, 3) := by decide +kernel
theorem d_law_387 : decode code 387 = .ok (.iconst 0, 1) := by decide +kernel
theorem d_law_388 : decode code 388 = .ok (.ireturn, 1) := by decide +kernel
theorem d_law_389 : decode code 389 = .ok (.aload_n 1, 1) := by decide +kernel
theorem d_law_390 : decode code 390 = .ok (.aload_n 0, 1) := by decide +kernel
theorem d_law_391 : decode code 391 = .ok (.iload_n 3, 1) := by decide +kernel
theorem d_law_392 : decode code 392 = .ok (.iconst 1, 1) := by decide +kernel
theorem d_law_393 : decode code 393 = .ok (.iadd, 1) := by decide +kernel
theorem d_law_394 : decode code 394 = .ok (.iaload, 1) := by decide +kernel
theorem d_law_395 : decode code 395 = .ok (.aload_n 0, 1) := by decide +kernel
theorem d_law_396 : decode code 396 = .ok (.iload_n 3, 1) := by decide +kernel
theorem d_law_397 : decode code 397 = .ok (.iconst 2, 1) := by decide +kernel
theorem d_law_398 : decode code 398 = .ok (.iadd, 1) := by decide +kernel
theorem d_law_399 : decode code 399 = .ok (.iaload, 1) := by decide +kernel
theorem d_law_400 : decode code 400 = .ok (.invokevirtual 39, 3) := by decide +kernel
theorem lk_Lw_39 : Cond.methodLink "MaypoleGreenLaw" 39 m_Mg_read.1 ∈ aw_T := aw_in 534 (by decide +kernel) rfl
theorem in_Mg_read : Cond.instanceMethod m_Mg_read.1 ∈ aw_T := aw_in 535 (by decide +kernel) rfl
theorem se_Mg_read : Cond.selects m_Mg_read.1.cls m_Mg_read.1 m_Mg_read.1 ∈ aw_T := aw_in 536 (by decide +kernel) rfl
theorem d_law_403 : decode code 403 = .ok (.aload_n 2, 1) := by decide +kernel
theorem d_law_404 : decode code 404 = .ok (.aload_n 0, 1) := by decide +kernel
theorem d_law_405 : decode code 405 = .ok (.iload_n 3, 1) := by decide +kernel
theorem d_law_406 : decode code 406 = .ok (.iconst 1, 1) := by decide +kernel
theorem d_law_407 : decode code 407 = .ok (.iadd, 1) := by decide +kernel
theorem d_law_408 : decode code 408 = .ok (.iaload, 1) := by decide +kernel
theorem d_law_409 : decode code 409 = .ok (.aload_n 0, 1) := by decide +kernel
theorem d_law_410 : decode code 410 = .ok (.iload_n 3, 1) := by decide +kernel
theorem d_law_411 : decode code 411 = .ok (.iconst 2, 1) := by decide +kernel
theorem d_law_412 : decode code 412 = .ok (.iadd, 1) := by decide +kernel
theorem d_law_413 : decode code 413 = .ok (.iaload, 1) := by decide +kernel
theorem d_law_414 : decode code 414 = .ok (.invokevirtual 43, 3) := by decide +kernel
theorem lk_Lw_43 : Cond.methodLink "MaypoleGreenLaw" 43 m_Md_read.1 ∈ aw_T := aw_in 1446 (by decide +kernel) rfl
theorem in_Md_read : Cond.instanceMethod m_Md_read.1 ∈ aw_T := aw_in 1447 (by decide +kernel) rfl
theorem se_Md_read : Cond.selects m_Md_read.1.cls m_Md_read.1 m_Md_read.1 ∈ aw_T := aw_in 1448 (by decide +kernel) rfl
theorem d_law_417 : decode code 417 = .ok (.lcmp, 1) := by decide +kernel
theorem d_law_418 : decode code 418 = .ok (.ifCond .eq 1201, 3) := by decide +kernel
theorem d_law_421 : decode code 421 = .ok (.iconst 0, 1) := by decide +kernel
theorem d_law_422 : decode code 422 = .ok (.ireturn, 1) := by decide +kernel
theorem d_law_423 : decode code 423 = .ok (.aload_n 1, 1) := by decide +kernel
theorem d_law_424 : decode code 424 = .ok (.aload_n 0, 1) := by decide +kernel
theorem d_law_425 : decode code 425 = .ok (.iload_n 3, 1) := by decide +kernel
theorem d_law_426 : decode code 426 = .ok (.iconst 1, 1) := by decide +kernel
theorem d_law_427 : decode code 427 = .ok (.iadd, 1) := by decide +kernel
theorem d_law_428 : decode code 428 = .ok (.iaload, 1) := by decide +kernel
theorem d_law_429 : decode code 429 = .ok (.aload_n 0, 1) := by decide +kernel
theorem d_law_430 : decode code 430 = .ok (.iload_n 3, 1) := by decide +kernel
theorem d_law_431 : decode code 431 = .ok (.iconst 2, 1) := by decide +kernel
theorem d_law_432 : decode code 432 = .ok (.iadd, 1) := by decide +kernel
theorem d_law_433 : decode code 433 = .ok (.iaload, 1) := by decide +kernel
theorem d_law_434 : decode code 434 = .ok (.aload_n 0, 1) := by decide +kernel
theorem d_law_435 : decode code 435 = .ok (.iload_n 3, 1) := by decide +kernel
theorem d_law_436 : decode code 436 = .ok (.iconst 3, 1) := by decide +kernel
theorem d_law_437 : decode code 437 = .ok (.iadd, 1) := by decide +kernel
theorem d_law_438 : decode code 438 = .ok (.iaload, 1) := by decide +kernel
theorem d_law_439 : decode code 439 = .ok (.aload_n 0, 1) := by decide +kernel
theorem d_law_440 : decode code 440 = .ok (.iload_n 3, 1) := by decide +kernel
theorem d_law_441 : decode code 441 = .ok (.iconst 4, 1) := by decide +kernel
theorem d_law_442 : decode code 442 = .ok (.iadd, 1) := by decide +kernel
theorem d_law_443 : decode code 443 = .ok (.iaload, 1) := by decide +kernel
theorem d_law_444 : decode code 444 = .ok (.aload_n 0, 1) := by decide +kernel
theorem d_law_445 : decode code 445 = .ok (.iload_n 3, 1) := by decide +kernel
theorem d_law_446 : decode code 446 = .ok (.iconst 5, 1) := by decide +kernel
theorem d_law_447 : decode code 447 = .ok (.iadd, 1) := by decide +kernel
theorem d_law_448 : decode code 448 = .ok (.iaload, 1) := by decide +kernel
theorem d_law_449 : decode code 449 = .ok (.invokevirtual 44, 3) := by decide +kernel
theorem lk_Lw_44 : Cond.methodLink "MaypoleGreenLaw" 44 m_Mg_pour.1 ∈ aw_T := aw_in 542 (by decide +kernel) rfl
theorem in_Mg_pour : Cond.instanceMethod m_Mg_pour.1 ∈ aw_T := aw_in 543 (by decide +kernel) rfl
theorem se_Mg_pour : Cond.selects m_Mg_pour.1.cls m_Mg_pour.1 m_Mg_pour.1 ∈ aw_T := aw_in 544 (by decide +kernel) rfl
theorem d_law_452 : decode code 452 = .ok (.aload_n 2, 1) := by decide +kernel
theorem d_law_453 : decode code 453 = .ok (.aload_n 0, 1) := by decide +kernel
theorem d_law_454 : decode code 454 = .ok (.iload_n 3, 1) := by decide +kernel
theorem d_law_455 : decode code 455 = .ok (.iconst 1, 1) := by decide +kernel
theorem d_law_456 : decode code 456 = .ok (.iadd, 1) := by decide +kernel
theorem d_law_457 : decode code 457 = .ok (.iaload, 1) := by decide +kernel
theorem d_law_458 : decode code 458 = .ok (.aload_n 0, 1) := by decide +kernel
theorem d_law_459 : decode code 459 = .ok (.iload_n 3, 1) := by decide +kernel
theorem d_law_460 : decode code 460 = .ok (.iconst 2, 1) := by decide +kernel
theorem d_law_461 : decode code 461 = .ok (.iadd, 1) := by decide +kernel
theorem d_law_462 : decode code 462 = .ok (.iaload, 1) := by decide +kernel
theorem d_law_463 : decode code 463 = .ok (.aload_n 0, 1) := by decide +kernel
theorem d_law_464 : decode code 464 = .ok (.iload_n 3, 1) := by decide +kernel
theorem d_law_465 : decode code 465 = .ok (.iconst 3, 1) := by decide +kernel
theorem d_law_466 : decode code 466 = .ok (.iadd, 1) := by decide +kernel
theorem d_law_467 : decode code 467 = .ok (.iaload, 1) := by decide +kernel
theorem d_law_468 : decode code 468 = .ok (.aload_n 0, 1) := by decide +kernel
theorem d_law_469 : decode code 469 = .ok (.iload_n 3, 1) := by decide +kernel
theorem d_law_470 : decode code 470 = .ok (.iconst 4, 1) := by decide +kernel
theorem d_law_471 : decode code 471 = .ok (.iadd, 1) := by decide +kernel
theorem d_law_472 : decode code 472 = .ok (.iaload, 1) := by decide +kernel
theorem d_law_473 : decode code 473 = .ok (.aload_n 0, 1) := by decide +kernel
theorem d_law_474 : decode code 474 = .ok (.iload_n 3, 1) := by decide +kernel
theorem d_law_475 : decode code 475 = .ok (.iconst 5, 1) := by decide +kernel
theorem d_law_476 : decode code 476 = .ok (.iadd, 1) := by decide +kernel
theorem d_law_477 : decode code 477 = .ok (.iaload, 1) := by decide +kernel
theorem d_law_478 : decode code 478 = .ok (.invokevirtual 48, 3) := by decide +kernel
theorem lk_Lw_48 : Cond.methodLink "MaypoleGreenLaw" 48 m_Md_pour.1 ∈ aw_T := aw_in 1451 (by decide +kernel) rfl
theorem in_Md_pour : Cond.instanceMethod m_Md_pour.1 ∈ aw_T := aw_in 1452 (by decide +kernel) rfl
theorem se_Md_pour : Cond.selects m_Md_pour.1.cls m_Md_pour.1 m_Md_pour.1 ∈ aw_T := aw_in 1453 (by decide +kernel) rfl
theorem d_law_481 : decode code 481 = .ok (.if_icmp .eq 1138, 3) := by decide +kernel
theorem d_law_484 : decode code 484 = .ok (.iconst 0, 1) := by decide +kernel
theorem d_law_485 : decode code 485 = .ok (.ireturn, 1) := by decide +kernel
theorem d_law_486 : decode code 486 = .ok (.aload_n 1, 1) := by decide +kernel
theorem d_law_487 : decode code 487 = .ok (.aload_n 0, 1) := by decide +kernel
theorem d_law_488 : decode code 488 = .ok (.iload_n 3, 1) := by decide +kernel
theorem d_law_489 : decode code 489 = .ok (.iconst 1, 1) := by decide +kernel
theorem d_law_490 : decode code 490 = .ok (.iadd, 1) := by decide +kernel
theorem d_law_491 : decode code 491 = .ok (.iaload, 1) := by decide +kernel
theorem d_law_492 : decode code 492 = .ok (.aload_n 0, 1) := by decide +kernel
theorem d_law_493 : decode code 493 = .ok (.iload_n 3, 1) := by decide +kernel
theorem d_law_494 : decode code 494 = .ok (.iconst 2, 1) := by decide +kernel
theorem d_law_495 : decode code 495 = .ok (.iadd, 1) := by decide +kernel
theorem d_law_496 : decode code 496 = .ok (.iaload, 1) := by decide +kernel
theorem d_law_497 : decode code 497 = .ok (.aload_n 0, 1) := by decide +kernel
theorem d_law_498 : decode code 498 = .ok (.iload_n 3, 1) := by decide +kernel
theorem d_law_499 : decode code 499 = .ok (.iconst 3, 1) := by decide +kernel
theorem d_law_500 : decode code 500 = .ok (.iadd, 1) := by decide +kernel
theorem d_law_501 : decode code 501 = .ok (.iaload, 1) := by decide +kernel
theorem d_law_502 : decode code 502 = .ok (.aload_n 0, 1) := by decide +kernel
theorem d_law_503 : decode code 503 = .ok (.iload_n 3, 1) := by decide +kernel
theorem d_law_504 : decode code 504 = .ok (.iconst 4, 1) := by decide +kernel
theorem d_law_505 : decode code 505 = .ok (.iadd, 1) := by decide +kernel
theorem d_law_506 : decode code 506 = .ok (.iaload, 1) := by decide +kernel
theorem d_law_507 : decode code 507 = .ok (.aload_n 0, 1) := by decide +kernel
theorem d_law_508 : decode code 508 = .ok (.iload_n 3, 1) := by decide +kernel
theorem d_law_509 : decode code 509 = .ok (.iconst 5, 1) := by decide +kernel
theorem d_law_510 : decode code 510 = .ok (.iadd, 1) := by decide +kernel
theorem d_law_511 : decode code 511 = .ok (.iaload, 1) := by decide +kernel
theorem d_law_512 : decode code 512 = .ok (.invokevirtual 49, 3) := by decide +kernel
theorem lk_Lw_49 : Cond.methodLink "MaypoleGreenLaw" 49 m_Mg_feed.1 ∈ aw_T := aw_in 553 (by decide +kernel) rfl
theorem in_Mg_feed : Cond.instanceMethod m_Mg_feed.1 ∈ aw_T := aw_in 554 (by decide +kernel) rfl
theorem se_Mg_feed : Cond.selects m_Mg_feed.1.cls m_Mg_feed.1 m_Mg_feed.1 ∈ aw_T := aw_in 555 (by decide +kernel) rfl
theorem d_law_515 : decode code 515 = .ok (.aload_n 2, 1) := by decide +kernel
theorem d_law_516 : decode code 516 = .ok (.aload_n 0, 1) := by decide +kernel
theorem d_law_517 : decode code 517 = .ok (.iload_n 3, 1) := by decide +kernel
theorem d_law_518 : decode code 518 = .ok (.iconst 1, 1) := by decide +kernel
theorem d_law_519 : decode code 519 = .ok (.iadd, 1) := by decide +kernel
theorem d_law_520 : decode code 520 = .ok (.iaload, 1) := by decide +kernel
theorem d_law_521 : decode code 521 = .ok (.aload_n 0, 1) := by decide +kernel
theorem d_law_522 : decode code 522 = .ok (.iload_n 3, 1) := by decide +kernel
theorem d_law_523 : decode code 523 = .ok (.iconst 2, 1) := by decide +kernel
theorem d_law_524 : decode code 524 = .ok (.iadd, 1) := by decide +kernel
theorem d_law_525 : decode code 525 = .ok (.iaload, 1) := by decide +kernel
theorem d_law_526 : decode code 526 = .ok (.aload_n 0, 1) := by decide +kernel
theorem d_law_527 : decode code 527 = .ok (.iload_n 3, 1) := by decide +kernel
theorem d_law_528 : decode code 528 = .ok (.iconst 3, 1) := by decide +kernel
theorem d_law_529 : decode code 529 = .ok (.iadd, 1) := by decide +kernel
theorem d_law_530 : decode code 530 = .ok (.iaload, 1) := by decide +kernel
theorem d_law_531 : decode code 531 = .ok (.aload_n 0, 1) := by decide +kernel
theorem d_law_532 : decode code 532 = .ok (.iload_n 3, 1) := by decide +kernel
theorem d_law_533 : decode code 533 = .ok (.iconst 4, 1) := by decide +kernel
theorem d_law_534 : decode code 534 = .ok (.iadd, 1) := by decide +kernel
theorem d_law_535 : decode code 535 = .ok (.iaload, 1) := by decide +kernel
theorem d_law_536 : decode code 536 = .ok (.aload_n 0, 1) := by decide +kernel
theorem d_law_537 : decode code 537 = .ok (.iload_n 3, 1) := by decide +kernel
theorem d_law_538 : decode code 538 = .ok (.iconst 5, 1) := by decide +kernel
theorem d_law_539 : decode code 539 = .ok (.iadd, 1) := by decide +kernel
theorem d_law_540 : decode code 540 = .ok (.iaload, 1) := by decide +kernel
theorem d_law_541 : decode code 541 = .ok (.invokevirtual 53, 3) := by decide +kernel
theorem lk_Lw_53 : Cond.methodLink "MaypoleGreenLaw" 53 m_Md_feed.1 ∈ aw_T := aw_in 1455 (by decide +kernel) rfl
theorem in_Md_feed : Cond.instanceMethod m_Md_feed.1 ∈ aw_T := aw_in 1456 (by decide +kernel) rfl
theorem se_Md_feed : Cond.selects m_Md_feed.1.cls m_Md_feed.1 m_Md_feed.1 ∈ aw_T := aw_in 1457 (by decide +kernel) rfl
theorem d_law_544 : decode code 544 = .ok (.if_icmp .eq 1075, 3) := by decide +kernel
theorem d_law_547 : decode code 547 = .ok (.iconst 0, 1) := by decide +kernel
theorem d_law_548 : decode code 548 = .ok (.ireturn, 1) := by decide +kernel
theorem d_law_549 : decode code 549 = .ok (.aload_n 1, 1) := by decide +kernel
theorem d_law_550 : decode code 550 = .ok (.aload_n 0, 1) := by decide +kernel
theorem d_law_551 : decode code 551 = .ok (.iload_n 3, 1) := by decide +kernel
theorem d_law_552 : decode code 552 = .ok (.iconst 1, 1) := by decide +kernel
theorem d_law_553 : decode code 553 = .ok (.iadd, 1) := by decide +kernel
theorem d_law_554 : decode code 554 = .ok (.iaload, 1) := by decide +kernel
theorem d_law_555 : decode code 555 = .ok (.invokevirtual 54, 3) := by decide +kernel
theorem lk_Lw_54 : Cond.methodLink "MaypoleGreenLaw" 54 m_Mg_green.1 ∈ aw_T := aw_in 561 (by decide +kernel) rfl
theorem in_Mg_green : Cond.instanceMethod m_Mg_green.1 ∈ aw_T := aw_in 562 (by decide +kernel) rfl
theorem se_Mg_green : Cond.selects m_Mg_green.1.cls m_Mg_green.1 m_Mg_green.1 ∈ aw_T := aw_in 563 (by decide +kernel) rfl
theorem d_law_558 : decode code 558 = .ok (.aload_n 2, 1) := by decide +kernel
theorem d_law_559 : decode code 559 = .ok (.aload_n 0, 1) := by decide +kernel
theorem d_law_560 : decode code 560 = .ok (.iload_n 3, 1) := by decide +kernel
theorem d_law_561 : decode code 561 = .ok (.iconst 1, 1) := by decide +kernel
theorem d_law_562 : decode code 562 = .ok (.iadd, 1) := by decide +kernel
theorem d_law_563 : decode code 563 = .ok (.iaload, 1) := by decide +kernel
theorem d_law_564 : decode code 564 = .ok (.invokevirtual 58, 3) := by decide +kernel
theorem lk_Lw_58 : Cond.methodLink "MaypoleGreenLaw" 58 m_Md_green.1 ∈ aw_T := aw_in 1467 (by decide +kernel) rfl
theorem in_Md_green : Cond.instanceMethod m_Md_green.1 ∈ aw_T := aw_in 1468 (by decide +kernel) rfl
theorem se_Md_green : Cond.selects m_Md_green.1.cls m_Md_green.1 m_Md_green.1 ∈ aw_T := aw_in 1469 (by decide +kernel) rfl
theorem d_law_567 : decode code 567 = .ok (.if_icmp .eq 1052, 3) := by decide +kernel
theorem d_law_570 : decode code 570 = .ok (.iconst 0, 1) := by decide +kernel
theorem d_law_571 : decode code 571 = .ok (.ireturn, 1) := by decide +kernel
theorem d_law_572 : decode code 572 = .ok (.aload_n 1, 1) := by decide +kernel
theorem d_law_573 : decode code 573 = .ok (.aload_n 0, 1) := by decide +kernel
theorem d_law_574 : decode code 574 = .ok (.iload_n 3, 1) := by decide +kernel
theorem d_law_575 : decode code 575 = .ok (.iconst 1, 1) := by decide +kernel
theorem d_law_576 : decode code 576 = .ok (.iadd, 1) := by decide +kernel
theorem d_law_577 : decode code 577 = .ok (.iaload, 1) := by decide +kernel
theorem d_law_578 : decode code 578 = .ok (.invokevirtual 59, 3) := by decide +kernel
theorem lk_Lw_59 : Cond.methodLink "MaypoleGreenLaw" 59 m_Mg_feasts.1 ∈ aw_T := aw_in 730 (by decide +kernel) rfl
theorem in_Mg_feasts : Cond.instanceMethod m_Mg_feasts.1 ∈ aw_T := aw_in 731 (by decide +kernel) rfl
theorem se_Mg_feasts : Cond.selects m_Mg_feasts.1.cls m_Mg_feasts.1 m_Mg_feasts.1 ∈ aw_T := aw_in 732 (by decide +kernel) rfl
theorem d_law_581 : decode code 581 = .ok (.aload_n 2, 1) := by decide +kernel
theorem d_law_582 : decode code 582 = .ok (.aload_n 0, 1) := by decide +kernel
theorem d_law_583 : decode code 583 = .ok (.iload_n 3, 1) := by decide +kernel
theorem d_law_584 : decode code 584 = .ok (.iconst 1, 1) := by decide +kernel
theorem d_law_585 : decode code 585 = .ok (.iadd, 1) := by decide +kernel
theorem d_law_586 : decode code 586 = .ok (.iaload, 1) := by decide +kernel
theorem d_law_587 : decode code 587 = .ok (.invokevirtual 62, 3) := by decide +kernel
theorem lk_Lw_62 : Cond.methodLink "MaypoleGreenLaw" 62 m_Md_feasts.1 ∈ aw_T := aw_in 1602 (by decide +kernel) rfl
theorem in_Md_feasts : Cond.instanceMethod m_Md_feasts.1 ∈ aw_T := aw_in 1603 (by decide +kernel) rfl
theorem se_Md_feasts : Cond.selects m_Md_feasts.1.cls m_Md_feasts.1 m_Md_feasts.1 ∈ aw_T := aw_in 1604 (by decide +kernel) rfl
theorem d_law_590 : decode code 590 = .ok (.if_icmp .eq 1029, 3) := by decide +kernel
theorem d_law_593 : decode code 593 = .ok (.iconst 0, 1) := by decide +kernel
theorem d_law_594 : decode code 594 = .ok (.ireturn, 1) := by decide +kernel
theorem d_law_595 : decode code 595 = .ok (.aload_n 1, 1) := by decide +kernel
theorem d_law_596 : decode code 596 = .ok (.aload_n 0, 1) := by decide +kernel
theorem d_law_597 : decode code 597 = .ok (.iload_n 3, 1) := by decide +kernel
theorem d_law_598 : decode code 598 = .ok (.iconst 1, 1) := by decide +kernel
theorem d_law_599 : decode code 599 = .ok (.iadd, 1) := by decide +kernel
theorem d_law_600 : decode code 600 = .ok (.iaload, 1) := by decide +kernel
theorem d_law_601 : decode code 601 = .ok (.invokevirtual 63, 3) := by decide +kernel
theorem lk_Lw_63 : Cond.methodLink "MaypoleGreenLaw" 63 m_Mg_fault.1 ∈ aw_T := aw_in 783 (by decide +kernel) rfl
theorem in_Mg_fault : Cond.instanceMethod m_Mg_fault.1 ∈ aw_T := aw_in 784 (by decide +kernel) rfl
theorem se_Mg_fault : Cond.selects m_Mg_fault.1.cls m_Mg_fault.1 m_Mg_fault.1 ∈ aw_T := aw_in 785 (by decide +kernel) rfl
theorem d_law_604 : decode code 604 = .ok (.aload_n 2, 1) := by decide +kernel
theorem d_law_605 : decode code 605 = .ok (.aload_n 0, 1) := by decide +kernel
theorem d_law_606 : decode code 606 = .ok (.iload_n 3, 1) := by decide +kernel
theorem d_law_607 : decode code 607 = .ok (.iconst 1, 1) := by decide +kernel
theorem d_law_608 : decode code 608 = .ok (.iadd, 1) := by decide +kernel
theorem d_law_609 : decode code 609 = .ok (.iaload, 1) := by decide +kernel
theorem d_law_610 : decode code 610 = .ok (.invokevirtual 66, 3) := by decide +kernel
theorem lk_Lw_66 : Cond.methodLink "MaypoleGreenLaw" 66 m_Md_fault.1 ∈ aw_T := aw_in 1463 (by decide +kernel) rfl
theorem in_Md_fault : Cond.instanceMethod m_Md_fault.1 ∈ aw_T := aw_in 1464 (by decide +kernel) rfl
theorem se_Md_fault : Cond.selects m_Md_fault.1.cls m_Md_fault.1 m_Md_fault.1 ∈ aw_T := aw_in 1465 (by decide +kernel) rfl
theorem d_law_613 : decode code 613 = .ok (.if_icmp .eq 1006, 3) := by decide +kernel
theorem d_law_616 : decode code 616 = .ok (.iconst 0, 1) := by decide +kernel
theorem d_law_617 : decode code 617 = .ok (.ireturn, 1) := by decide +kernel
theorem d_law_618 : decode code 618 = .ok (.aload_n 1, 1) := by decide +kernel
theorem d_law_619 : decode code 619 = .ok (.aload_n 0, 1) := by decide +kernel
theorem d_law_620 : decode code 620 = .ok (.iload_n 3, 1) := by decide +kernel
theorem d_law_621 : decode code 621 = .ok (.iconst 1, 1) := by decide +kernel
theorem d_law_622 : decode code 622 = .ok (.iadd, 1) := by decide +kernel
theorem d_law_623 : decode code 623 = .ok (.iaload, 1) := by decide +kernel
theorem d_law_624 : decode code 624 = .ok (.invokevirtual 67, 3) := by decide +kernel
theorem lk_Lw_67 : Cond.methodLink "MaypoleGreenLaw" 67 m_Mg_told.1 ∈ aw_T := aw_in 787 (by decide +kernel) rfl
theorem in_Mg_told : Cond.instanceMethod m_Mg_told.1 ∈ aw_T := aw_in 788 (by decide +kernel) rfl
theorem se_Mg_told : Cond.selects m_Mg_told.1.cls m_Mg_told.1 m_Mg_told.1 ∈ aw_T := aw_in 789 (by decide +kernel) rfl
theorem d_law_627 : decode code 627 = .ok (.aload_n 2, 1) := by decide +kernel
theorem d_law_628 : decode code 628 = .ok (.aload_n 0, 1) := by decide +kernel
theorem d_law_629 : decode code 629 = .ok (.iload_n 3, 1) := by decide +kernel
theorem d_law_630 : decode code 630 = .ok (.iconst 1, 1) := by decide +kernel
theorem d_law_631 : decode code 631 = .ok (.iadd, 1) := by decide +kernel
theorem d_law_632 : decode code 632 = .ok (.iaload, 1) := by decide +kernel
theorem d_law_633 : decode code 633 = .ok (.invokevirtual 70, 3) := by decide +kernel
theorem lk_Lw_70 : Cond.methodLink "MaypoleGreenLaw" 70 m_Md_told.1 ∈ aw_T := aw_in 1626 (by decide +kernel) rfl
theorem in_Md_told : Cond.instanceMethod m_Md_told.1 ∈ aw_T := aw_in 1627 (by decide +kernel) rfl
theorem se_Md_told : Cond.selects m_Md_told.1.cls m_Md_told.1 m_Md_told.1 ∈ aw_T := aw_in 1628 (by decide +kernel) rfl
theorem d_law_636 : decode code 636 = .ok (.if_icmp .eq 983, 3) := by decide +kernel
theorem d_law_639 : decode code 639 = .ok (.iconst 0, 1) := by decide +kernel
theorem d_law_640 : decode code 640 = .ok (.ireturn, 1) := by decide +kernel
theorem d_law_641 : decode code 641 = .ok (.aload_n 1, 1) := by decide +kernel
theorem d_law_642 : decode code 642 = .ok (.aload_n 0, 1) := by decide +kernel
theorem d_law_643 : decode code 643 = .ok (.iload_n 3, 1) := by decide +kernel
theorem d_law_644 : decode code 644 = .ok (.iconst 1, 1) := by decide +kernel
theorem d_law_645 : decode code 645 = .ok (.iadd, 1) := by decide +kernel
theorem d_law_646 : decode code 646 = .ok (.iaload, 1) := by decide +kernel
theorem d_law_647 : decode code 647 = .ok (.aload_n 0, 1) := by decide +kernel
theorem d_law_648 : decode code 648 = .ok (.iload_n 3, 1) := by decide +kernel
theorem d_law_649 : decode code 649 = .ok (.iconst 2, 1) := by decide +kernel
theorem d_law_650 : decode code 650 = .ok (.iadd, 1) := by decide +kernel
theorem d_law_651 : decode code 651 = .ok (.iaload, 1) := by decide +kernel
theorem d_law_652 : decode code 652 = .ok (.invokevirtual 71, 3) := by decide +kernel
theorem lk_Lw_71 : Cond.methodLink "MaypoleGreenLaw" 71 m_Mg_dancer.1 ∈ aw_T := aw_in 828 (by decide +kernel) rfl
theorem in_Mg_dancer : Cond.instanceMethod m_Mg_dancer.1 ∈ aw_T := aw_in 829 (by decide +kernel) rfl
theorem se_Mg_dancer : Cond.selects m_Mg_dancer.1.cls m_Mg_dancer.1 m_Mg_dancer.1 ∈ aw_T := aw_in 830 (by decide +kernel) rfl
theorem d_law_655 : decode code 655 = .ok (.aload_n 2, 1) := by decide +kernel
theorem d_law_656 : decode code 656 = .ok (.aload_n 0, 1) := by decide +kernel
theorem d_law_657 : decode code 657 = .ok (.iload_n 3, 1) := by decide +kernel
theorem d_law_658 : decode code 658 = .ok (.iconst 1, 1) := by decide +kernel
theorem d_law_659 : decode code 659 = .ok (.iadd, 1) := by decide +kernel
theorem d_law_660 : decode code 660 = .ok (.iaload, 1) := by decide +kernel
theorem d_law_661 : decode code 661 = .ok (.aload_n 0, 1) := by decide +kernel
theorem d_law_662 : decode code 662 = .ok (.iload_n 3, 1) := by decide +kernel
theorem d_law_663 : decode code 663 = .ok (.iconst 2, 1) := by decide +kernel
theorem d_law_664 : decode code 664 = .ok (.iadd, 1) := by decide +kernel
theorem d_law_665 : decode code 665 = .ok (.iaload, 1) := by decide +kernel
theorem d_law_666 : decode code 666 = .ok (.invokevirtual 75, 3) := by decide +kernel
theorem lk_Lw_75 : Cond.methodLink "MaypoleGreenLaw" 75 m_Md_dancer.1 ∈ aw_T := aw_in 1657 (by decide +kernel) rfl
theorem in_Md_dancer : Cond.instanceMethod m_Md_dancer.1 ∈ aw_T := aw_in 1658 (by decide +kernel) rfl
theorem se_Md_dancer : Cond.selects m_Md_dancer.1.cls m_Md_dancer.1 m_Md_dancer.1 ∈ aw_T := aw_in 1659 (by decide +kernel) rfl
theorem d_law_669 : decode code 669 = .ok (.if_icmp .eq 950, 3) := by decide +kernel
theorem d_law_672 : decode code 672 = .ok (.iconst 0, 1) := by decide +kernel
theorem d_law_673 : decode code 673 = .ok (.ireturn, 1) := by decide +kernel
theorem d_law_674 : decode code 674 = .ok (.aload_n 1, 1) := by decide +kernel
theorem d_law_675 : decode code 675 = .ok (.aload_n 0, 1) := by decide +kernel
theorem d_law_676 : decode code 676 = .ok (.iload_n 3, 1) := by decide +kernel
theorem d_law_677 : decode code 677 = .ok (.iconst 1, 1) := by decide +kernel
theorem d_law_678 : decode code 678 = .ok (.iadd, 1) := by decide +kernel
theorem d_law_679 : decode code 679 = .ok (.iaload, 1) := by decide +kernel
theorem d_law_680 : decode code 680 = .ok (.invokevirtual 76, 3) := by decide +kernel
theorem lk_Lw_76 : Cond.methodLink "MaypoleGreenLaw" 76 m_Mg_place.1 ∈ aw_T := aw_in 845 (by decide +kernel) rfl
theorem in_Mg_place : Cond.instanceMethod m_Mg_place.1 ∈ aw_T := aw_in 846 (by decide +kernel) rfl
theorem se_Mg_place : Cond.selects m_Mg_place.1.cls m_Mg_place.1 m_Mg_place.1 ∈ aw_T := aw_in 847 (by decide +kernel) rfl
theorem d_law_683 : decode code 683 = .ok (.aload_n 2, 1) := by decide +kernel
theorem d_law_684 : decode code 684 = .ok (.aload_n 0, 1) := by decide +kernel
theorem d_law_685 : decode code 685 = .ok (.iload_n 3, 1) := by decide +kernel
theorem d_law_686 : decode code 686 = .ok (.iconst 1, 1) := by decide +kernel
theorem d_law_687 : decode code 687 = .ok (.iadd, 1) := by decide +kernel
theorem d_law_688 : decode code 688 = .ok (.iaload, 1) := by decide +kernel
theorem d_law_689 : decode code 689 = .ok (.invokevirtual 79, 3) := by decide +kernel
theorem lk_Lw_79 : Cond.methodLink "MaypoleGreenLaw" 79 m_Md_place.1 ∈ aw_T := aw_in 1673 (by decide +kernel) rfl
theorem in_Md_place : Cond.instanceMethod m_Md_place.1 ∈ aw_T := aw_in 1674 (by decide +kernel) rfl
theorem se_Md_place : Cond.selects m_Md_place.1.cls m_Md_place.1 m_Md_place.1 ∈ aw_T := aw_in 1675 (by decide +kernel) rfl
theorem d_law_692 : decode code 692 = .ok (.if_icmp .eq 927, 3) := by decide +kernel
theorem d_law_695 : decode code 695 = .ok (.iconst 0, 1) := by decide +kernel
theorem d_law_696 : decode code 696 = .ok (.ireturn, 1) := by decide +kernel
theorem d_law_697 : decode code 697 = .ok (.aload_n 1, 1) := by decide +kernel
theorem d_law_698 : decode code 698 = .ok (.aload_n 0, 1) := by decide +kernel
theorem d_law_699 : decode code 699 = .ok (.iload_n 3, 1) := by decide +kernel
theorem d_law_700 : decode code 700 = .ok (.iconst 1, 1) := by decide +kernel
theorem d_law_701 : decode code 701 = .ok (.iadd, 1) := by decide +kernel
theorem d_law_702 : decode code 702 = .ok (.iaload, 1) := by decide +kernel
theorem d_law_703 : decode code 703 = .ok (.aload_n 0, 1) := by decide +kernel
theorem d_law_704 : decode code 704 = .ok (.iload_n 3, 1) := by decide +kernel
theorem d_law_705 : decode code 705 = .ok (.iconst 2, 1) := by decide +kernel
theorem d_law_706 : decode code 706 = .ok (.iadd, 1) := by decide +kernel
theorem d_law_707 : decode code 707 = .ok (.iaload, 1) := by decide +kernel
theorem d_law_708 : decode code 708 = .ok (.invokevirtual 80, 3) := by decide +kernel
theorem lk_Lw_80 : Cond.methodLink "MaypoleGreenLaw" 80 m_Mg_plait.1 ∈ aw_T := aw_in 853 (by decide +kernel) rfl
theorem in_Mg_plait : Cond.instanceMethod m_Mg_plait.1 ∈ aw_T := aw_in 854 (by decide +kernel) rfl
theorem se_Mg_plait : Cond.selects m_Mg_plait.1.cls m_Mg_plait.1 m_Mg_plait.1 ∈ aw_T := aw_in 855 (by decide +kernel) rfl
theorem d_law_711 : decode code 711 = .ok (.aload_n 2, 1) := by decide +kernel
theorem d_law_712 : decode code 712 = .ok (.aload_n 0, 1) := by decide +kernel
theorem d_law_713 : decode code 713 = .ok (.iload_n 3, 1) := by decide +kernel
theorem d_law_714 : decode code 714 = .ok (.iconst 1, 1) := by decide +kernel
theorem d_law_715 : decode code 715 = .ok (.iadd, 1) := by decide +kernel
theorem d_law_716 : decode code 716 = .ok (.iaload, 1) := by decide +kernel
theorem d_law_717 : decode code 717 = .ok (.aload_n 0, 1) := by decide +kernel
theorem d_law_718 : decode code 718 = .ok (.iload_n 3, 1) := by decide +kernel
theorem d_law_719 : decode code 719 = .ok (.iconst 2, 1) := by decide +kernel
theorem d_law_720 : decode code 720 = .ok (.iadd, 1) := by decide +kernel
theorem d_law_721 : decode code 721 = .ok (.iaload, 1) := by decide +kernel
theorem d_law_722 : decode code 722 = .ok (.invokevirtual 83, 3) := by decide +kernel
theorem lk_Lw_83 : Cond.methodLink "MaypoleGreenLaw" 83 m_Md_plait.1 ∈ aw_T := aw_in 1677 (by decide +kernel) rfl
theorem in_Md_plait : Cond.instanceMethod m_Md_plait.1 ∈ aw_T := aw_in 1678 (by decide +kernel) rfl
theorem se_Md_plait : Cond.selects m_Md_plait.1.cls m_Md_plait.1 m_Md_plait.1 ∈ aw_T := aw_in 1679 (by decide +kernel) rfl
theorem d_law_725 : decode code 725 = .ok (.if_icmp .eq 894, 3) := by decide +kernel
theorem d_law_728 : decode code 728 = .ok (.iconst 0, 1) := by decide +kernel
theorem d_law_729 : decode code 729 = .ok (.ireturn, 1) := by decide +kernel
theorem d_law_730 : decode code 730 = .ok (.aload_n 1, 1) := by decide +kernel
theorem d_law_731 : decode code 731 = .ok (.aload_n 0, 1) := by decide +kernel
theorem d_law_732 : decode code 732 = .ok (.iload_n 3, 1) := by decide +kernel
theorem d_law_733 : decode code 733 = .ok (.iconst 1, 1) := by decide +kernel
theorem d_law_734 : decode code 734 = .ok (.iadd, 1) := by decide +kernel
theorem d_law_735 : decode code 735 = .ok (.iaload, 1) := by decide +kernel
theorem d_law_736 : decode code 736 = .ok (.invokevirtual 84, 3) := by decide +kernel
theorem lk_Lw_84 : Cond.methodLink "MaypoleGreenLaw" 84 m_Mg_shows.1 ∈ aw_T := aw_in 875 (by decide +kernel) rfl
theorem in_Mg_shows : Cond.instanceMethod m_Mg_shows.1 ∈ aw_T := aw_in 876 (by decide +kernel) rfl
theorem se_Mg_shows : Cond.selects m_Mg_shows.1.cls m_Mg_shows.1 m_Mg_shows.1 ∈ aw_T := aw_in 877 (by decide +kernel) rfl
theorem d_law_739 : decode code 739 = .ok (.aload_n 2, 1) := by decide +kernel
theorem d_law_740 : decode code 740 = .ok (.aload_n 0, 1) := by decide +kernel
theorem d_law_741 : decode code 741 = .ok (.iload_n 3, 1) := by decide +kernel
theorem d_law_742 : decode code 742 = .ok (.iconst 1, 1) := by decide +kernel
theorem d_law_743 : decode code 743 = .ok (.iadd, 1) := by decide +kernel
theorem d_law_744 : decode code 744 = .ok (.iaload, 1) := by decide +kernel
theorem d_law_745 : decode code 745 = .ok (.invokevirtual 87, 3) := by decide +kernel
theorem lk_Lw_87 : Cond.methodLink "MaypoleGreenLaw" 87 m_Md_shows.1 ∈ aw_T := aw_in 1689 (by decide +kernel) rfl
theorem in_Md_shows : Cond.instanceMethod m_Md_shows.1 ∈ aw_T := aw_in 1690 (by decide +kernel) rfl
theorem se_Md_shows : Cond.selects m_Md_shows.1.cls m_Md_shows.1 m_Md_shows.1 ∈ aw_T := aw_in 1691 (by decide +kernel) rfl
theorem d_law_748 : decode code 748 = .ok (.if_icmp .eq 871, 3) := by decide +kernel
theorem d_law_751 : decode code 751 = .ok (.iconst 0, 1) := by decide +kernel
theorem d_law_752 : decode code 752 = .ok (.ireturn, 1) := by decide +kernel
theorem d_law_753 : decode code 753 = .ok (.aload_n 1, 1) := by decide +kernel
theorem d_law_754 : decode code 754 = .ok (.aload_n 0, 1) := by decide +kernel
theorem d_law_755 : decode code 755 = .ok (.iload_n 3, 1) := by decide +kernel
theorem d_law_756 : decode code 756 = .ok (.iconst 1, 1) := by decide +kernel
theorem d_law_757 : decode code 757 = .ok (.iadd, 1) := by decide +kernel
theorem d_law_758 : decode code 758 = .ok (.iaload, 1) := by decide +kernel
theorem d_law_759 : decode code 759 = .ok (.invokevirtual 88, 3) := by decide +kernel
theorem lk_Lw_88 : Cond.methodLink "MaypoleGreenLaw" 88 m_Mg_passes.1 ∈ aw_T := aw_in 891 (by decide +kernel) rfl
theorem in_Mg_passes : Cond.instanceMethod m_Mg_passes.1 ∈ aw_T := aw_in 892 (by decide +kernel) rfl
theorem se_Mg_passes : Cond.selects m_Mg_passes.1.cls m_Mg_passes.1 m_Mg_passes.1 ∈ aw_T := aw_in 893 (by decide +kernel) rfl
theorem d_law_762 : decode code 762 = .ok (.aload_n 2, 1) := by decide +kernel
theorem d_law_763 : decode code 763 = .ok (.aload_n 0, 1) := by decide +kernel
theorem d_law_764 : decode code 764 = .ok (.iload_n 3, 1) := by decide +kernel
theorem d_law_765 : decode code 765 = .ok (.iconst 1, 1) := by decide +kernel
theorem d_law_766 : decode code 766 = .ok (.iadd, 1) := by decide +kernel
theorem d_law_767 : decode code 767 = .ok (.iaload, 1) := by decide +kernel
theorem d_law_768 : decode code 768 = .ok (.invokevirtual 91, 3) := by decide +kernel
theorem lk_Lw_91 : Cond.methodLink "MaypoleGreenLaw" 91 m_Md_passes.1 ∈ aw_T := aw_in 1697 (by decide +kernel) rfl
theorem in_Md_passes : Cond.instanceMethod m_Md_passes.1 ∈ aw_T := aw_in 1698 (by decide +kernel) rfl
theorem se_Md_passes : Cond.selects m_Md_passes.1.cls m_Md_passes.1 m_Md_passes.1 ∈ aw_T := aw_in 1699 (by decide +kernel) rfl
theorem d_law_771 : decode code 771 = .ok (.if_icmp .eq 848, 3) := by decide +kernel
theorem d_law_774 : decode code 774 = .ok (.iconst 0, 1) := by decide +kernel
theorem d_law_775 : decode code 775 = .ok (.ireturn, 1) := by decide +kernel
theorem d_law_776 : decode code 776 = .ok (.aload_n 1, 1) := by decide +kernel
theorem d_law_777 : decode code 777 = .ok (.aload_n 0, 1) := by decide +kernel
theorem d_law_778 : decode code 778 = .ok (.iload_n 3, 1) := by decide +kernel
theorem d_law_779 : decode code 779 = .ok (.iconst 1, 1) := by decide +kernel
theorem d_law_780 : decode code 780 = .ok (.iadd, 1) := by decide +kernel
theorem d_law_781 : decode code 781 = .ok (.iaload, 1) := by decide +kernel
theorem d_law_782 : decode code 782 = .ok (.aload_n 0, 1) := by decide +kernel
theorem d_law_783 : decode code 783 = .ok (.iload_n 3, 1) := by decide +kernel
theorem d_law_784 : decode code 784 = .ok (.iconst 2, 1) := by decide +kernel
theorem d_law_785 : decode code 785 = .ok (.iadd, 1) := by decide +kernel
theorem d_law_786 : decode code 786 = .ok (.iaload, 1) := by decide +kernel
theorem d_law_787 : decode code 787 = .ok (.ifCond .eq 7, 3) := by decide +kernel
theorem d_law_794 : decode code 794 = .ok (.iconst 0, 1) := by decide +kernel
theorem d_law_795 : decode code 795 = .ok (.invokevirtual 92, 3) := by decide +kernel
theorem lk_Lw_92 : Cond.methodLink "MaypoleGreenLaw" 92 m_Mg_pass.1 ∈ aw_T := aw_in 900 (by decide +kernel) rfl
theorem in_Mg_pass : Cond.instanceMethod m_Mg_pass.1 ∈ aw_T := aw_in 901 (by decide +kernel) rfl
theorem se_Mg_pass : Cond.selects m_Mg_pass.1.cls m_Mg_pass.1 m_Mg_pass.1 ∈ aw_T := aw_in 902 (by decide +kernel) rfl
theorem d_law_798 : decode code 798 = .ok (.aload_n 2, 1) := by decide +kernel
theorem d_law_799 : decode code 799 = .ok (.aload_n 0, 1) := by decide +kernel
theorem d_law_800 : decode code 800 = .ok (.iload_n 3, 1) := by decide +kernel
theorem d_law_801 : decode code 801 = .ok (.iconst 1, 1) := by decide +kernel
theorem d_law_802 : decode code 802 = .ok (.iadd, 1) := by decide +kernel
theorem d_law_803 : decode code 803 = .ok (.iaload, 1) := by decide +kernel
theorem d_law_804 : decode code 804 = .ok (.aload_n 0, 1) := by decide +kernel
theorem d_law_805 : decode code 805 = .ok (.iload_n 3, 1) := by decide +kernel
theorem d_law_806 : decode code 806 = .ok (.iconst 2, 1) := by decide +kernel
theorem d_law_807 : decode code 807 = .ok (.iadd, 1) := by decide +kernel
theorem d_law_808 : decode code 808 = .ok (.iaload, 1) := by decide +kernel
theorem d_law_809 : decode code 809 = .ok (.ifCond .eq 7, 3) := by decide +kernel
theorem d_law_816 : decode code 816 = .ok (.iconst 0, 1) := by decide +kernel
theorem d_law_817 : decode code 817 = .ok (.invokevirtual 96, 3) := by decide +kernel
theorem lk_Lw_96 : Cond.methodLink "MaypoleGreenLaw" 96 m_Md_pass.1 ∈ aw_T := aw_in 1701 (by decide +kernel) rfl
theorem in_Md_pass : Cond.instanceMethod m_Md_pass.1 ∈ aw_T := aw_in 1702 (by decide +kernel) rfl
theorem se_Md_pass : Cond.selects m_Md_pass.1.cls m_Md_pass.1 m_Md_pass.1 ∈ aw_T := aw_in 1703 (by decide +kernel) rfl
theorem d_law_820 : decode code 820 = .ok (.if_icmp .eq 799, 3) := by decide +kernel
theorem d_law_823 : decode code 823 = .ok (.iconst 0, 1) := by decide +kernel
theorem d_law_824 : decode code 824 = .ok (.ireturn, 1) := by decide +kernel
theorem d_law_812 : decode code 812 = .ok (.iconst 1, 1) := by decide +kernel
theorem d_law_813 : decode code 813 = .ok (.goto 4, 3) := by decide +kernel
theorem d_law_790 : decode code 790 = .ok (.iconst 1, 1) := by decide +kernel
theorem d_law_791 : decode code 791 = .ok (.goto 4, 3) := by decide +kernel
theorem d_law_825 : decode code 825 = .ok (.aload_n 1, 1) := by decide +kernel
theorem d_law_826 : decode code 826 = .ok (.invokevirtual 97, 3) := by decide +kernel
theorem lk_Lw_97 : Cond.methodLink "MaypoleGreenLaw" 97 m_Mg_back.1 ∈ aw_T := aw_in 905 (by decide +kernel) rfl
theorem in_Mg_back : Cond.instanceMethod m_Mg_back.1 ∈ aw_T := aw_in 906 (by decide +kernel) rfl
theorem se_Mg_back : Cond.selects m_Mg_back.1.cls m_Mg_back.1 m_Mg_back.1 ∈ aw_T := aw_in 907 (by decide +kernel) rfl
theorem d_law_829 : decode code 829 = .ok (.aload_n 2, 1) := by decide +kernel
theorem d_law_830 : decode code 830 = .ok (.invokevirtual 100, 3) := by decide +kernel
theorem lk_Lw_100 : Cond.methodLink "MaypoleGreenLaw" 100 m_Md_back.1 ∈ aw_T := aw_in 1709 (by decide +kernel) rfl
theorem in_Md_back : Cond.instanceMethod m_Md_back.1 ∈ aw_T := aw_in 1710 (by decide +kernel) rfl
theorem se_Md_back : Cond.selects m_Md_back.1.cls m_Md_back.1 m_Md_back.1 ∈ aw_T := aw_in 1711 (by decide +kernel) rfl
theorem d_law_833 : decode code 833 = .ok (.if_icmp .eq 786, 3) := by decide +kernel
theorem d_law_836 : decode code 836 = .ok (.iconst 0, 1) := by decide +kernel
theorem d_law_837 : decode code 837 = .ok (.ireturn, 1) := by decide +kernel
theorem d_law_838 : decode code 838 = .ok (.aload_n 1, 1) := by decide +kernel
theorem d_law_839 : decode code 839 = .ok (.invokevirtual 101, 3) := by decide +kernel
theorem lk_Lw_101 : Cond.methodLink "MaypoleGreenLaw" 101 m_Mg_weave.1 ∈ aw_T := aw_in 913 (by decide +kernel) rfl
theorem in_Mg_weave : Cond.instanceMethod m_Mg_weave.1 ∈ aw_T := aw_in 914 (by decide +kernel) rfl
theorem se_Mg_weave : Cond.selects m_Mg_weave.1.cls m_Mg_weave.1 m_Mg_weave.1 ∈ aw_T := aw_in 915 (by decide +kernel) rfl
theorem d_law_842 : decode code 842 = .ok (.aload_n 2, 1) := by decide +kernel
theorem d_law_843 : decode code 843 = .ok (.invokevirtual 104, 3) := by decide +kernel
theorem lk_Lw_104 : Cond.methodLink "MaypoleGreenLaw" 104 m_Md_weave.1 ∈ aw_T := aw_in 1717 (by decide +kernel) rfl
theorem in_Md_weave : Cond.instanceMethod m_Md_weave.1 ∈ aw_T := aw_in 1718 (by decide +kernel) rfl
theorem se_Md_weave : Cond.selects m_Md_weave.1.cls m_Md_weave.1 m_Md_weave.1 ∈ aw_T := aw_in 1719 (by decide +kernel) rfl
theorem d_law_846 : decode code 846 = .ok (.if_icmp .eq 773, 3) := by decide +kernel
theorem d_law_849 : decode code 849 = .ok (.iconst 0, 1) := by decide +kernel
theorem d_law_850 : decode code 850 = .ok (.ireturn, 1) := by decide +kernel
theorem d_law_851 : decode code 851 = .ok (.aload_n 1, 1) := by decide +kernel
theorem d_law_852 : decode code 852 = .ok (.aload_n 0, 1) := by decide +kernel
theorem d_law_853 : decode code 853 = .ok (.iload_n 3, 1) := by decide +kernel
theorem d_law_854 : decode code 854 = .ok (.iconst 1, 1) := by decide +kernel
theorem d_law_855 : decode code 855 = .ok (.iadd, 1) := by decide +kernel
theorem d_law_856 : decode code 856 = .ok (.iaload, 1) := by decide +kernel
theorem d_law_857 : decode code 857 = .ok (.aload_n 0, 1) := by decide +kernel
theorem d_law_858 : decode code 858 = .ok (.iload_n 3, 1) := by decide +kernel
theorem d_law_859 : decode code 859 = .ok (.iconst 2, 1) := by decide +kernel
theorem d_law_860 : decode code 860 = .ok (.iadd, 1) := by decide +kernel
theorem d_law_861 : decode code 861 = .ok (.iaload, 1) := by decide +kernel
theorem d_law_862 : decode code 862 = .ok (.invokevirtual 105, 3) := by decide +kernel
theorem lk_Lw_105 : Cond.methodLink "MaypoleGreenLaw" 105 m_Mg_paint.1 ∈ aw_T := aw_in 923 (by decide +kernel) rfl
theorem in_Mg_paint : Cond.instanceMethod m_Mg_paint.1 ∈ aw_T := aw_in 924 (by decide +kernel) rfl
theorem se_Mg_paint : Cond.selects m_Mg_paint.1.cls m_Mg_paint.1 m_Mg_paint.1 ∈ aw_T := aw_in 925 (by decide +kernel) rfl
theorem d_law_865 : decode code 865 = .ok (.aload_n 2, 1) := by decide +kernel
theorem d_law_866 : decode code 866 = .ok (.aload_n 0, 1) := by decide +kernel
theorem d_law_867 : decode code 867 = .ok (.iload_n 3, 1) := by decide +kernel
theorem d_law_868 : decode code 868 = .ok (.iconst 1, 1) := by decide +kernel
theorem d_law_869 : decode code 869 = .ok (.iadd, 1) := by decide +kernel
theorem d_law_870 : decode code 870 = .ok (.iaload, 1) := by decide +kernel
theorem d_law_871 : decode code 871 = .ok (.aload_n 0, 1) := by decide +kernel
theorem d_law_872 : decode code 872 = .ok (.iload_n 3, 1) := by decide +kernel
theorem d_law_873 : decode code 873 = .ok (.iconst 2, 1) := by decide +kernel
theorem d_law_874 : decode code 874 = .ok (.iadd, 1) := by decide +kernel
theorem d_law_875 : decode code 875 = .ok (.iaload, 1) := by decide +kernel
theorem d_law_876 : decode code 876 = .ok (.invokevirtual 108, 3) := by decide +kernel
theorem lk_Lw_108 : Cond.methodLink "MaypoleGreenLaw" 108 m_Md_paint.1 ∈ aw_T := aw_in 1729 (by decide +kernel) rfl
theorem in_Md_paint : Cond.instanceMethod m_Md_paint.1 ∈ aw_T := aw_in 1730 (by decide +kernel) rfl
theorem se_Md_paint : Cond.selects m_Md_paint.1.cls m_Md_paint.1 m_Md_paint.1 ∈ aw_T := aw_in 1731 (by decide +kernel) rfl
theorem d_law_879 : decode code 879 = .ok (.if_icmp .eq 740, 3) := by decide +kernel
theorem d_law_882 : decode code 882 = .ok (.iconst 0, 1) := by decide +kernel
theorem d_law_883 : decode code 883 = .ok (.ireturn, 1) := by decide +kernel
theorem d_law_884 : decode code 884 = .ok (.aload_n 1, 1) := by decide +kernel
theorem d_law_885 : decode code 885 = .ok (.aload_n 0, 1) := by decide +kernel
theorem d_law_886 : decode code 886 = .ok (.iload_n 3, 1) := by decide +kernel
theorem d_law_887 : decode code 887 = .ok (.iconst 1, 1) := by decide +kernel
theorem d_law_888 : decode code 888 = .ok (.iadd, 1) := by decide +kernel
theorem d_law_889 : decode code 889 = .ok (.iaload, 1) := by decide +kernel
theorem d_law_890 : decode code 890 = .ok (.aload_n 0, 1) := by decide +kernel
theorem d_law_891 : decode code 891 = .ok (.iload_n 3, 1) := by decide +kernel
theorem d_law_892 : decode code 892 = .ok (.iconst 2, 1) := by decide +kernel
theorem d_law_893 : decode code 893 = .ok (.iadd, 1) := by decide +kernel
theorem d_law_894 : decode code 894 = .ok (.iaload, 1) := by decide +kernel
theorem d_law_895 : decode code 895 = .ok (.invokevirtual 109, 3) := by decide +kernel
theorem lk_Lw_109 : Cond.methodLink "MaypoleGreenLaw" 109 m_Mg_trade.1 ∈ aw_T := aw_in 927 (by decide +kernel) rfl
theorem in_Mg_trade : Cond.instanceMethod m_Mg_trade.1 ∈ aw_T := aw_in 928 (by decide +kernel) rfl
theorem se_Mg_trade : Cond.selects m_Mg_trade.1.cls m_Mg_trade.1 m_Mg_trade.1 ∈ aw_T := aw_in 929 (by decide +kernel) rfl
theorem d_law_898 : decode code 898 = .ok (.aload_n 2, 1) := by decide +kernel
theorem d_law_899 : decode code 899 = .ok (.aload_n 0, 1) := by decide +kernel
theorem d_law_900 : decode code 900 = .ok (.iload_n 3, 1) := by decide +kernel
theorem d_law_901 : decode code 901 = .ok (.iconst 1, 1) := by decide +kernel
theorem d_law_902 : decode code 902 = .ok (.iadd, 1) := by decide +kernel
theorem d_law_903 : decode code 903 = .ok (.iaload, 1) := by decide +kernel
theorem d_law_904 : decode code 904 = .ok (.aload_n 0, 1) := by decide +kernel
theorem d_law_905 : decode code 905 = .ok (.iload_n 3, 1) := by decide +kernel
theorem d_law_906 : decode code 906 = .ok (.iconst 2, 1) := by decide +kernel
theorem d_law_907 : decode code 907 = .ok (.iadd, 1) := by decide +kernel
theorem d_law_908 : decode code 908 = .ok (.iaload, 1) := by decide +kernel
theorem d_law_909 : decode code 909 = .ok (.invokevirtual 113, 3) := by decide +kernel
theorem lk_Lw_113 : Cond.methodLink "MaypoleGreenLaw" 113 m_Md_trade.1 ∈ aw_T := aw_in 1741 (by decide +kernel) rfl
theorem in_Md_trade : Cond.instanceMethod m_Md_trade.1 ∈ aw_T := aw_in 1742 (by decide +kernel) rfl
theorem se_Md_trade : Cond.selects m_Md_trade.1.cls m_Md_trade.1 m_Md_trade.1 ∈ aw_T := aw_in 1743 (by decide +kernel) rfl
theorem d_law_912 : decode code 912 = .ok (.if_icmp .eq 707, 3) := by decide +kernel
theorem d_law_915 : decode code 915 = .ok (.iconst 0, 1) := by decide +kernel
theorem d_law_916 : decode code 916 = .ok (.ireturn, 1) := by decide +kernel
theorem d_law_917 : decode code 917 = .ok (.aload_n 1, 1) := by decide +kernel
theorem d_law_918 : decode code 918 = .ok (.aload_n 0, 1) := by decide +kernel
theorem d_law_919 : decode code 919 = .ok (.iload_n 3, 1) := by decide +kernel
theorem d_law_920 : decode code 920 = .ok (.iconst 1, 1) := by decide +kernel
theorem d_law_921 : decode code 921 = .ok (.iadd, 1) := by decide +kernel
theorem d_law_922 : decode code 922 = .ok (.iaload, 1) := by decide +kernel
theorem d_law_923 : decode code 923 = .ok (.invokevirtual 114, 3) := by decide +kernel
theorem lk_Lw_114 : Cond.methodLink "MaypoleGreenLaw" 114 m_Mg_come.1 ∈ aw_T := aw_in 935 (by decide +kernel) rfl
theorem in_Mg_come : Cond.instanceMethod m_Mg_come.1 ∈ aw_T := aw_in 936 (by decide +kernel) rfl
theorem se_Mg_come : Cond.selects m_Mg_come.1.cls m_Mg_come.1 m_Mg_come.1 ∈ aw_T := aw_in 937 (by decide +kernel) rfl
theorem d_law_926 : decode code 926 = .ok (.aload_n 2, 1) := by decide +kernel
theorem d_law_927 : decode code 927 = .ok (.aload_n 0, 1) := by decide +kernel
theorem d_law_928 : decode code 928 = .ok (.iload_n 3, 1) := by decide +kernel
theorem d_law_929 : decode code 929 = .ok (.iconst 1, 1) := by decide +kernel
theorem d_law_930 : decode code 930 = .ok (.iadd, 1) := by decide +kernel
theorem d_law_931 : decode code 931 = .ok (.iaload, 1) := by decide +kernel
theorem d_law_932 : decode code 932 = .ok (.invokevirtual 117, 3) := by decide +kernel
theorem lk_Lw_117 : Cond.methodLink "MaypoleGreenLaw" 117 m_Md_come.1 ∈ aw_T := aw_in 1749 (by decide +kernel) rfl
theorem in_Md_come : Cond.instanceMethod m_Md_come.1 ∈ aw_T := aw_in 1750 (by decide +kernel) rfl
theorem se_Md_come : Cond.selects m_Md_come.1.cls m_Md_come.1 m_Md_come.1 ∈ aw_T := aw_in 1751 (by decide +kernel) rfl
theorem d_law_935 : decode code 935 = .ok (.if_icmp .eq 684, 3) := by decide +kernel
theorem d_law_938 : decode code 938 = .ok (.iconst 0, 1) := by decide +kernel
theorem d_law_939 : decode code 939 = .ok (.ireturn, 1) := by decide +kernel
theorem d_law_940 : decode code 940 = .ok (.aload_n 1, 1) := by decide +kernel
theorem d_law_941 : decode code 941 = .ok (.aload_n 0, 1) := by decide +kernel
theorem d_law_942 : decode code 942 = .ok (.iload_n 3, 1) := by decide +kernel
theorem d_law_943 : decode code 943 = .ok (.iconst 1, 1) := by decide +kernel
theorem d_law_944 : decode code 944 = .ok (.iadd, 1) := by decide +kernel
theorem d_law_945 : decode code 945 = .ok (.iaload, 1) := by decide +kernel
theorem d_law_946 : decode code 946 = .ok (.aload_n 0, 1) := by decide +kernel
theorem d_law_947 : decode code 947 = .ok (.iload_n 3, 1) := by decide +kernel
theorem d_law_948 : decode code 948 = .ok (.iconst 2, 1) := by decide +kernel
theorem d_law_949 : decode code 949 = .ok (.iadd, 1) := by decide +kernel
theorem d_law_950 : decode code 950 = .ok (.iaload, 1) := by decide +kernel
theorem d_law_951 : decode code 951 = .ok (.invokevirtual 118, 3) := by decide +kernel
theorem lk_Lw_118 : Cond.methodLink "MaypoleGreenLaw" 118 m_Mg_rule.1 ∈ aw_T := aw_in 940 (by decide +kernel) rfl
theorem in_Mg_rule : Cond.instanceMethod m_Mg_rule.1 ∈ aw_T := aw_in 941 (by decide +kernel) rfl
theorem se_Mg_rule : Cond.selects m_Mg_rule.1.cls m_Mg_rule.1 m_Mg_rule.1 ∈ aw_T := aw_in 942 (by decide +kernel) rfl
theorem d_law_954 : decode code 954 = .ok (.aload_n 2, 1) := by decide +kernel
theorem d_law_955 : decode code 955 = .ok (.aload_n 0, 1) := by decide +kernel
theorem d_law_956 : decode code 956 = .ok (.iload_n 3, 1) := by decide +kernel
theorem d_law_957 : decode code 957 = .ok (.iconst 1, 1) := by decide +kernel
theorem d_law_958 : decode code 958 = .ok (.iadd, 1) := by decide +kernel
theorem d_law_959 : decode code 959 = .ok (.iaload, 1) := by decide +kernel
theorem d_law_960 : decode code 960 = .ok (.aload_n 0, 1) := by decide +kernel
theorem d_law_961 : decode code 961 = .ok (.iload_n 3, 1) := by decide +kernel
theorem d_law_962 : decode code 962 = .ok (.iconst 2, 1) := by decide +kernel
theorem d_law_963 : decode code 963 = .ok (.iadd, 1) := by decide +kernel
theorem d_law_964 : decode code 964 = .ok (.iaload, 1) := by decide +kernel
theorem d_law_965 : decode code 965 = .ok (.invokevirtual 121, 3) := by decide +kernel
theorem lk_Lw_121 : Cond.methodLink "MaypoleGreenLaw" 121 m_Md_rule.1 ∈ aw_T := aw_in 1753 (by decide +kernel) rfl
theorem in_Md_rule : Cond.instanceMethod m_Md_rule.1 ∈ aw_T := aw_in 1754 (by decide +kernel) rfl
theorem se_Md_rule : Cond.selects m_Md_rule.1.cls m_Md_rule.1 m_Md_rule.1 ∈ aw_T := aw_in 1755 (by decide +kernel) rfl
theorem d_law_968 : decode code 968 = .ok (.if_icmp .eq 651, 3) := by decide +kernel
theorem d_law_971 : decode code 971 = .ok (.iconst 0, 1) := by decide +kernel
theorem d_law_972 : decode code 972 = .ok (.ireturn, 1) := by decide +kernel
theorem d_law_973 : decode code 973 = .ok (.aload_n 1, 1) := by decide +kernel
theorem d_law_974 : decode code 974 = .ok (.aload_n 0, 1) := by decide +kernel
theorem d_law_975 : decode code 975 = .ok (.iload_n 3, 1) := by decide +kernel
theorem d_law_976 : decode code 976 = .ok (.iconst 1, 1) := by decide +kernel
theorem d_law_977 : decode code 977 = .ok (.iadd, 1) := by decide +kernel
theorem d_law_978 : decode code 978 = .ok (.iaload, 1) := by decide +kernel
theorem d_law_979 : decode code 979 = .ok (.invokevirtual 122, 3) := by decide +kernel
theorem lk_Lw_122 : Cond.methodLink "MaypoleGreenLaw" 122 m_Mg_bound.1 ∈ aw_T := aw_in 944 (by decide +kernel) rfl
theorem in_Mg_bound : Cond.instanceMethod m_Mg_bound.1 ∈ aw_T := aw_in 945 (by decide +kernel) rfl
theorem se_Mg_bound : Cond.selects m_Mg_bound.1.cls m_Mg_bound.1 m_Mg_bound.1 ∈ aw_T := aw_in 946 (by decide +kernel) rfl
theorem d_law_982 : decode code 982 = .ok (.aload_n 2, 1) := by decide +kernel
theorem d_law_983 : decode code 983 = .ok (.aload_n 0, 1) := by decide +kernel
theorem d_law_984 : decode code 984 = .ok (.iload_n 3, 1) := by decide +kernel
theorem d_law_985 : decode code 985 = .ok (.iconst 1, 1) := by decide +kernel
theorem d_law_986 : decode code 986 = .ok (.iadd, 1) := by decide +kernel
theorem d_law_987 : decode code 987 = .ok (.iaload, 1) := by decide +kernel
theorem d_law_988 : decode code 988 = .ok (.invokevirtual 125, 3) := by decide +kernel
theorem lk_Lw_125 : Cond.methodLink "MaypoleGreenLaw" 125 m_Md_bound.1 ∈ aw_T := aw_in 1759 (by decide +kernel) rfl
theorem in_Md_bound : Cond.instanceMethod m_Md_bound.1 ∈ aw_T := aw_in 1760 (by decide +kernel) rfl
theorem se_Md_bound : Cond.selects m_Md_bound.1.cls m_Md_bound.1 m_Md_bound.1 ∈ aw_T := aw_in 1761 (by decide +kernel) rfl
theorem d_law_991 : decode code 991 = .ok (.if_icmp .eq 628, 3) := by decide +kernel
theorem d_law_994 : decode code 994 = .ok (.iconst 0, 1) := by decide +kernel
theorem d_law_995 : decode code 995 = .ok (.ireturn, 1) := by decide +kernel
theorem d_law_996 : decode code 996 = .ok (.aload_n 1, 1) := by decide +kernel
theorem d_law_997 : decode code 997 = .ok (.invokevirtual 126, 3) := by decide +kernel
theorem lk_Lw_126 : Cond.methodLink "MaypoleGreenLaw" 126 m_Mg_homeward.1 ∈ aw_T := aw_in 948 (by decide +kernel) rfl
theorem in_Mg_homeward : Cond.instanceMethod m_Mg_homeward.1 ∈ aw_T := aw_in 949 (by decide +kernel) rfl
theorem se_Mg_homeward : Cond.selects m_Mg_homeward.1.cls m_Mg_homeward.1 m_Mg_homeward.1 ∈ aw_T := aw_in 950 (by decide +kernel) rfl
theorem d_law_1000 : decode code 1000 = .ok (.aload_n 2, 1) := by decide +kernel
theorem d_law_1001 : decode code 1001 = .ok (.invokevirtual 129, 3) := by decide +kernel
theorem lk_Lw_129 : Cond.methodLink "MaypoleGreenLaw" 129 m_Md_homeward.1 ∈ aw_T := aw_in 1763 (by decide +kernel) rfl
theorem in_Md_homeward : Cond.instanceMethod m_Md_homeward.1 ∈ aw_T := aw_in 1764 (by decide +kernel) rfl
theorem se_Md_homeward : Cond.selects m_Md_homeward.1.cls m_Md_homeward.1 m_Md_homeward.1 ∈ aw_T := aw_in 1765 (by decide +kernel) rfl
theorem d_law_1004 : decode code 1004 = .ok (.if_icmp .eq 615, 3) := by decide +kernel
theorem d_law_1007 : decode code 1007 = .ok (.iconst 0, 1) := by decide +kernel
theorem d_law_1008 : decode code 1008 = .ok (.ireturn, 1) := by decide +kernel
theorem d_law_1009 : decode code 1009 = .ok (.aload_n 1, 1) := by decide +kernel
theorem d_law_1010 : decode code 1010 = .ok (.aload_n 0, 1) := by decide +kernel
theorem d_law_1011 : decode code 1011 = .ok (.iload_n 3, 1) := by decide +kernel
theorem d_law_1012 : decode code 1012 = .ok (.iconst 1, 1) := by decide +kernel
theorem d_law_1013 : decode code 1013 = .ok (.iadd, 1) := by decide +kernel
theorem d_law_1014 : decode code 1014 = .ok (.iaload, 1) := by decide +kernel
theorem d_law_1015 : decode code 1015 = .ok (.invokevirtual 130, 3) := by decide +kernel
theorem lk_Lw_130 : Cond.methodLink "MaypoleGreenLaw" 130 m_Mg_homewardAt.1 ∈ aw_T := aw_in 971 (by decide +kernel) rfl
theorem in_Mg_homewardAt : Cond.instanceMethod m_Mg_homewardAt.1 ∈ aw_T := aw_in 972 (by decide +kernel) rfl
theorem se_Mg_homewardAt : Cond.selects m_Mg_homewardAt.1.cls m_Mg_homewardAt.1 m_Mg_homewardAt.1 ∈ aw_T := aw_in 973 (by decide +kernel) rfl
theorem d_law_1018 : decode code 1018 = .ok (.aload_n 2, 1) := by decide +kernel
theorem d_law_1019 : decode code 1019 = .ok (.aload_n 0, 1) := by decide +kernel
theorem d_law_1020 : decode code 1020 = .ok (.iload_n 3, 1) := by decide +kernel
theorem d_law_1021 : decode code 1021 = .ok (.iconst 1, 1) := by decide +kernel
theorem d_law_1022 : decode code 1022 = .ok (.iadd, 1) := by decide +kernel
theorem d_law_1023 : decode code 1023 = .ok (.iaload, 1) := by decide +kernel
theorem d_law_1024 : decode code 1024 = .ok (.invokevirtual 133, 3) := by decide +kernel
theorem lk_Lw_133 : Cond.methodLink "MaypoleGreenLaw" 133 m_Md_homewardAt.1 ∈ aw_T := aw_in 1791 (by decide +kernel) rfl
theorem in_Md_homewardAt : Cond.instanceMethod m_Md_homewardAt.1 ∈ aw_T := aw_in 1792 (by decide +kernel) rfl
theorem se_Md_homewardAt : Cond.selects m_Md_homewardAt.1.cls m_Md_homewardAt.1 m_Md_homewardAt.1 ∈ aw_T := aw_in 1793 (by decide +kernel) rfl
theorem d_law_1027 : decode code 1027 = .ok (.if_icmp .eq 592, 3) := by decide +kernel
theorem d_law_1030 : decode code 1030 = .ok (.iconst 0, 1) := by decide +kernel
theorem d_law_1031 : decode code 1031 = .ok (.ireturn, 1) := by decide +kernel
theorem d_law_1032 : decode code 1032 = .ok (.aload_n 1, 1) := by decide +kernel
theorem d_law_1033 : decode code 1033 = .ok (.aload_n 0, 1) := by decide +kernel
theorem d_law_1034 : decode code 1034 = .ok (.iload_n 3, 1) := by decide +kernel
theorem d_law_1035 : decode code 1035 = .ok (.iconst 1, 1) := by decide +kernel
theorem d_law_1036 : decode code 1036 = .ok (.iadd, 1) := by decide +kernel
theorem d_law_1037 : decode code 1037 = .ok (.iaload, 1) := by decide +kernel
theorem d_law_1038 : decode code 1038 = .ok (.aload_n 0, 1) := by decide +kernel
theorem d_law_1039 : decode code 1039 = .ok (.iload_n 3, 1) := by decide +kernel
theorem d_law_1040 : decode code 1040 = .ok (.iconst 2, 1) := by decide +kernel
theorem d_law_1041 : decode code 1041 = .ok (.iadd, 1) := by decide +kernel
theorem d_law_1042 : decode code 1042 = .ok (.iaload, 1) := by decide +kernel
theorem d_law_1043 : decode code 1043 = .ok (.invokevirtual 134, 3) := by decide +kernel
theorem lk_Lw_134 : Cond.methodLink "MaypoleGreenLaw" 134 m_Mg_meet.1 ∈ aw_T := aw_in 990 (by decide +kernel) rfl
theorem in_Mg_meet : Cond.instanceMethod m_Mg_meet.1 ∈ aw_T := aw_in 991 (by decide +kernel) rfl
theorem se_Mg_meet : Cond.selects m_Mg_meet.1.cls m_Mg_meet.1 m_Mg_meet.1 ∈ aw_T := aw_in 992 (by decide +kernel) rfl
theorem d_law_1046 : decode code 1046 = .ok (.aload_n 2, 1) := by decide +kernel
theorem d_law_1047 : decode code 1047 = .ok (.aload_n 0, 1) := by decide +kernel
theorem d_law_1048 : decode code 1048 = .ok (.iload_n 3, 1) := by decide +kernel
theorem d_law_1049 : decode code 1049 = .ok (.iconst 1, 1) := by decide +kernel
theorem d_law_1050 : decode code 1050 = .ok (.iadd, 1) := by decide +kernel
theorem d_law_1051 : decode code 1051 = .ok (.iaload, 1) := by decide +kernel
theorem d_law_1052 : decode code 1052 = .ok (.aload_n 0, 1) := by decide +kernel
theorem d_law_1053 : decode code 1053 = .ok (.iload_n 3, 1) := by decide +kernel
theorem d_law_1054 : decode code 1054 = .ok (.iconst 2, 1) := by decide +kernel
theorem d_law_1055 : decode code 1055 = .ok (.iadd, 1) := by decide +kernel
theorem d_law_1056 : decode code 1056 = .ok (.iaload, 1) := by decide +kernel
theorem d_law_1057 : decode code 1057 = .ok (.invokevirtual 137, 3) := by decide +kernel
theorem lk_Lw_137 : Cond.methodLink "MaypoleGreenLaw" 137 m_Md_meet.1 ∈ aw_T := aw_in 1795 (by decide +kernel) rfl
theorem in_Md_meet : Cond.instanceMethod m_Md_meet.1 ∈ aw_T := aw_in 1796 (by decide +kernel) rfl
theorem se_Md_meet : Cond.selects m_Md_meet.1.cls m_Md_meet.1 m_Md_meet.1 ∈ aw_T := aw_in 1797 (by decide +kernel) rfl
theorem d_law_1060 : decode code 1060 = .ok (.if_icmp .eq 559, 3) := by decide +kernel
theorem d_law_1063 : decode code 1063 = .ok (.iconst 0, 1) := by decide +kernel
theorem d_law_1064 : decode code 1064 = .ok (.ireturn, 1) := by decide +kernel
theorem d_law_1065 : decode code 1065 = .ok (.aload_n 1, 1) := by decide +kernel
theorem d_law_1066 : decode code 1066 = .ok (.aload_n 0, 1) := by decide +kernel
theorem d_law_1067 : decode code 1067 = .ok (.iload_n 3, 1) := by decide +kernel
theorem d_law_1068 : decode code 1068 = .ok (.iconst 1, 1) := by decide +kernel
theorem d_law_1069 : decode code 1069 = .ok (.iadd, 1) := by decide +kernel
theorem d_law_1070 : decode code 1070 = .ok (.iaload, 1) := by decide +kernel
theorem d_law_1071 : decode code 1071 = .ok (.aload_n 0, 1) := by decide +kernel
theorem d_law_1072 : decode code 1072 = .ok (.iload_n 3, 1) := by decide +kernel
theorem d_law_1073 : decode code 1073 = .ok (.iconst 2, 1) := by decide +kernel
theorem d_law_1074 : decode code 1074 = .ok (.iadd, 1) := by decide +kernel
theorem d_law_1075 : decode code 1075 = .ok (.iaload, 1) := by decide +kernel
theorem d_law_1076 : decode code 1076 = .ok (.invokevirtual 138, 3) := by decide +kernel
theorem lk_Lw_138 : Cond.methodLink "MaypoleGreenLaw" 138 m_Mg_same.1 ∈ aw_T := aw_in 998 (by decide +kernel) rfl
theorem in_Mg_same : Cond.instanceMethod m_Mg_same.1 ∈ aw_T := aw_in 999 (by decide +kernel) rfl
theorem se_Mg_same : Cond.selects m_Mg_same.1.cls m_Mg_same.1 m_Mg_same.1 ∈ aw_T := aw_in 1000 (by decide +kernel) rfl
theorem d_law_1079 : decode code 1079 = .ok (.aload_n 2, 1) := by decide +kernel
theorem d_law_1080 : decode code 1080 = .ok (.aload_n 0, 1) := by decide +kernel
theorem d_law_1081 : decode code 1081 = .ok (.iload_n 3, 1) := by decide +kernel
theorem d_law_1082 : decode code 1082 = .ok (.iconst 1, 1) := by decide +kernel
theorem d_law_1083 : decode code 1083 = .ok (.iadd, 1) := by decide +kernel
theorem d_law_1084 : decode code 1084 = .ok (.iaload, 1) := by decide +kernel
theorem d_law_1085 : decode code 1085 = .ok (.aload_n 0, 1) := by decide +kernel
theorem d_law_1086 : decode code 1086 = .ok (.iload_n 3, 1) := by decide +kernel
theorem d_law_1087 : decode code 1087 = .ok (.iconst 2, 1) := by decide +kernel
theorem d_law_1088 : decode code 1088 = .ok (.iadd, 1) := by decide +kernel
theorem d_law_1089 : decode code 1089 = .ok (.iaload, 1) := by decide +kernel
theorem d_law_1090 : decode code 1090 = .ok (.invokevirtual 141, 3) := by decide +kernel
theorem lk_Lw_141 : Cond.methodLink "MaypoleGreenLaw" 141 m_Md_same.1 ∈ aw_T := aw_in 1799 (by decide +kernel) rfl
theorem in_Md_same : Cond.instanceMethod m_Md_same.1 ∈ aw_T := aw_in 1800 (by decide +kernel) rfl
theorem se_Md_same : Cond.selects m_Md_same.1.cls m_Md_same.1 m_Md_same.1 ∈ aw_T := aw_in 1801 (by decide +kernel) rfl
theorem d_law_1093 : decode code 1093 = .ok (.if_icmp .eq 526, 3) := by decide +kernel
theorem d_law_1096 : decode code 1096 = .ok (.iconst 0, 1) := by decide +kernel
theorem d_law_1097 : decode code 1097 = .ok (.ireturn, 1) := by decide +kernel
theorem d_law_1098 : decode code 1098 = .ok (.aload_n 1, 1) := by decide +kernel
theorem d_law_1099 : decode code 1099 = .ok (.aload_n 0, 1) := by decide +kernel
theorem d_law_1100 : decode code 1100 = .ok (.iload_n 3, 1) := by decide +kernel
theorem d_law_1101 : decode code 1101 = .ok (.iconst 1, 1) := by decide +kernel
theorem d_law_1102 : decode code 1102 = .ok (.iadd, 1) := by decide +kernel
theorem d_law_1103 : decode code 1103 = .ok (.iaload, 1) := by decide +kernel
theorem d_law_1104 : decode code 1104 = .ok (.aload_n 0, 1) := by decide +kernel
theorem d_law_1105 : decode code 1105 = .ok (.iload_n 3, 1) := by decide +kernel
theorem d_law_1106 : decode code 1106 = .ok (.iconst 2, 1) := by decide +kernel
theorem d_law_1107 : decode code 1107 = .ok (.iadd, 1) := by decide +kernel
theorem d_law_1108 : decode code 1108 = .ok (.iaload, 1) := by decide +kernel
theorem d_law_1109 : decode code 1109 = .ok (.invokevirtual 142, 3) := by decide +kernel
theorem lk_Lw_142 : Cond.methodLink "MaypoleGreenLaw" 142 m_Mg_apart.1 ∈ aw_T := aw_in 1024 (by decide +kernel) rfl
theorem in_Mg_apart : Cond.instanceMethod m_Mg_apart.1 ∈ aw_T := aw_in 1025 (by decide +kernel) rfl
theorem se_Mg_apart : Cond.selects m_Mg_apart.1.cls m_Mg_apart.1 m_Mg_apart.1 ∈ aw_T := aw_in 1026 (by decide +kernel) rfl
theorem d_law_1112 : decode code 1112 = .ok (.aload_n 2, 1) := by decide +kernel
theorem d_law_1113 : decode code 1113 = .ok (.aload_n 0, 1) := by decide +kernel
theorem d_law_1114 : decode code 1114 = .ok (.iload_n 3, 1) := by decide +kernel
theorem d_law_1115 : decode code 1115 = .ok (.iconst 1, 1) := by decide +kernel
theorem d_law_1116 : decode code 1116 = .ok (.iadd, 1) := by decide +kernel
theorem d_law_1117 : decode code 1117 = .ok (.iaload, 1) := by decide +kernel
theorem d_law_1118 : decode code 1118 = .ok (.aload_n 0, 1) := by decide +kernel
theorem d_law_1119 : decode code 1119 = .ok (.iload_n 3, 1) := by decide +kernel
theorem d_law_1120 : decode code 1120 = .ok (.iconst 2, 1) := by decide +kernel
theorem d_law_1121 : decode code 1121 = .ok (.iadd, 1) := by decide +kernel
theorem d_law_1122 : decode code 1122 = .ok (.iaload, 1) := by decide +kernel
theorem d_law_1123 : decode code 1123 = .ok (.invokevirtual 145, 3) := by decide +kernel
theorem lk_Lw_145 : Cond.methodLink "MaypoleGreenLaw" 145 m_Md_apart.1 ∈ aw_T := aw_in 1828 (by decide +kernel) rfl
theorem in_Md_apart : Cond.instanceMethod m_Md_apart.1 ∈ aw_T := aw_in 1829 (by decide +kernel) rfl
theorem se_Md_apart : Cond.selects m_Md_apart.1.cls m_Md_apart.1 m_Md_apart.1 ∈ aw_T := aw_in 1830 (by decide +kernel) rfl
theorem d_law_1126 : decode code 1126 = .ok (.if_icmp .eq 493, 3) := by decide +kernel
theorem d_law_1129 : decode code 1129 = .ok (.iconst 0, 1) := by decide +kernel
theorem d_law_1130 : decode code 1130 = .ok (.ireturn, 1) := by decide +kernel
theorem d_law_1131 : decode code 1131 = .ok (.aload_n 1, 1) := by decide +kernel
theorem d_law_1132 : decode code 1132 = .ok (.aload_n 0, 1) := by decide +kernel
theorem d_law_1133 : decode code 1133 = .ok (.iload_n 3, 1) := by decide +kernel
theorem d_law_1134 : decode code 1134 = .ok (.iconst 1, 1) := by decide +kernel
theorem d_law_1135 : decode code 1135 = .ok (.iadd, 1) := by decide +kernel
theorem d_law_1136 : decode code 1136 = .ok (.iaload, 1) := by decide +kernel
theorem d_law_1137 : decode code 1137 = .ok (.aload_n 0, 1) := by decide +kernel
theorem d_law_1138 : decode code 1138 = .ok (.iload_n 3, 1) := by decide +kernel
theorem d_law_1139 : decode code 1139 = .ok (.iconst 2, 1) := by decide +kernel
theorem d_law_1140 : decode code 1140 = .ok (.iadd, 1) := by decide +kernel
theorem d_law_1141 : decode code 1141 = .ok (.iaload, 1) := by decide +kernel
theorem d_law_1142 : decode code 1142 = .ok (.invokevirtual 146, 3) := by decide +kernel
theorem lk_Lw_146 : Cond.methodLink "MaypoleGreenLaw" 146 m_Mg_slips.1 ∈ aw_T := aw_in 1028 (by decide +kernel) rfl
theorem in_Mg_slips : Cond.instanceMethod m_Mg_slips.1 ∈ aw_T := aw_in 1029 (by decide +kernel) rfl
theorem se_Mg_slips : Cond.selects m_Mg_slips.1.cls m_Mg_slips.1 m_Mg_slips.1 ∈ aw_T := aw_in 1030 (by decide +kernel) rfl
theorem d_law_1145 : decode code 1145 = .ok (.aload_n 2, 1) := by decide +kernel
theorem d_law_1146 : decode code 1146 = .ok (.aload_n 0, 1) := by decide +kernel
theorem d_law_1147 : decode code 1147 = .ok (.iload_n 3, 1) := by decide +kernel
theorem d_law_1148 : decode code 1148 = .ok (.iconst 1, 1) := by decide +kernel
theorem d_law_1149 : decode code 1149 = .ok (.iadd, 1) := by decide +kernel
theorem d_law_1150 : decode code 1150 = .ok (.iaload, 1) := by decide +kernel
theorem d_law_1151 : decode code 1151 = .ok (.aload_n 0, 1) := by decide +kernel
theorem d_law_1152 : decode code 1152 = .ok (.iload_n 3, 1) := by decide +kernel
theorem d_law_1153 : decode code 1153 = .ok (.iconst 2, 1) := by decide +kernel
theorem d_law_1154 : decode code 1154 = .ok (.iadd, 1) := by decide +kernel
theorem d_law_1155 : decode code 1155 = .ok (.iaload, 1) := by decide +kernel
theorem d_law_1156 : decode code 1156 = .ok (.invokevirtual 149, 3) := by decide +kernel
theorem lk_Lw_149 : Cond.methodLink "MaypoleGreenLaw" 149 m_Md_slips.1 ∈ aw_T := aw_in 1832 (by decide +kernel) rfl
theorem in_Md_slips : Cond.instanceMethod m_Md_slips.1 ∈ aw_T := aw_in 1833 (by decide +kernel) rfl
theorem se_Md_slips : Cond.selects m_Md_slips.1.cls m_Md_slips.1 m_Md_slips.1 ∈ aw_T := aw_in 1834 (by decide +kernel) rfl
theorem d_law_1159 : decode code 1159 = .ok (.if_icmp .eq 460, 3) := by decide +kernel
theorem d_law_1162 : decode code 1162 = .ok (.iconst 0, 1) := by decide +kernel
theorem d_law_1163 : decode code 1163 = .ok (.ireturn, 1) := by decide +kernel
theorem d_law_1164 : decode code 1164 = .ok (.aload_n 1, 1) := by decide +kernel
theorem d_law_1165 : decode code 1165 = .ok (.aload_n 0, 1) := by decide +kernel
theorem d_law_1166 : decode code 1166 = .ok (.iload_n 3, 1) := by decide +kernel
theorem d_law_1167 : decode code 1167 = .ok (.iconst 1, 1) := by decide +kernel
theorem d_law_1168 : decode code 1168 = .ok (.iadd, 1) := by decide +kernel
theorem d_law_1169 : decode code 1169 = .ok (.iaload, 1) := by decide +kernel
theorem d_law_1170 : decode code 1170 = .ok (.aload_n 0, 1) := by decide +kernel
theorem d_law_1171 : decode code 1171 = .ok (.iload_n 3, 1) := by decide +kernel
theorem d_law_1172 : decode code 1172 = .ok (.iconst 2, 1) := by decide +kernel
theorem d_law_1173 : decode code 1173 = .ok (.iadd, 1) := by decide +kernel
theorem d_law_1174 : decode code 1174 = .ok (.iaload, 1) := by decide +kernel
theorem d_law_1175 : decode code 1175 = .ok (.aload_n 0, 1) := by decide +kernel
theorem d_law_1176 : decode code 1176 = .ok (.iload_n 3, 1) := by decide +kernel
theorem d_law_1177 : decode code 1177 = .ok (.iconst 3, 1) := by decide +kernel
theorem d_law_1178 : decode code 1178 = .ok (.iadd, 1) := by decide +kernel
theorem d_law_1179 : decode code 1179 = .ok (.iaload, 1) := by decide +kernel
theorem d_law_1180 : decode code 1180 = .ok (.invokevirtual 150, 3) := by decide +kernel
theorem lk_Lw_150 : Cond.methodLink "MaypoleGreenLaw" 150 m_Mg_slipAt.1 ∈ aw_T := aw_in 1032 (by decide +kernel) rfl
theorem in_Mg_slipAt : Cond.instanceMethod m_Mg_slipAt.1 ∈ aw_T := aw_in 1033 (by decide +kernel) rfl
theorem se_Mg_slipAt : Cond.selects m_Mg_slipAt.1.cls m_Mg_slipAt.1 m_Mg_slipAt.1 ∈ aw_T := aw_in 1034 (by decide +kernel) rfl
theorem d_law_1183 : decode code 1183 = .ok (.aload_n 2, 1) := by decide +kernel
theorem d_law_1184 : decode code 1184 = .ok (.aload_n 0, 1) := by decide +kernel
theorem d_law_1185 : decode code 1185 = .ok (.iload_n 3, 1) := by decide +kernel
theorem d_law_1186 : decode code 1186 = .ok (.iconst 1, 1) := by decide +kernel
theorem d_law_1187 : decode code 1187 = .ok (.iadd, 1) := by decide +kernel
theorem d_law_1188 : decode code 1188 = .ok (.iaload, 1) := by decide +kernel
theorem d_law_1189 : decode code 1189 = .ok (.aload_n 0, 1) := by decide +kernel
theorem d_law_1190 : decode code 1190 = .ok (.iload_n 3, 1) := by decide +kernel
theorem d_law_1191 : decode code 1191 = .ok (.iconst 2, 1) := by decide +kernel
theorem d_law_1192 : decode code 1192 = .ok (.iadd, 1) := by decide +kernel
theorem d_law_1193 : decode code 1193 = .ok (.iaload, 1) := by decide +kernel
theorem d_law_1194 : decode code 1194 = .ok (.aload_n 0, 1) := by decide +kernel
theorem d_law_1195 : decode code 1195 = .ok (.iload_n 3, 1) := by decide +kernel
theorem d_law_1196 : decode code 1196 = .ok (.iconst 3, 1) := by decide +kernel
theorem d_law_1197 : decode code 1197 = .ok (.iadd, 1) := by decide +kernel
theorem d_law_1198 : decode code 1198 = .ok (.iaload, 1) := by decide +kernel
theorem d_law_1199 : decode code 1199 = .ok (.invokevirtual 154, 3) := by decide +kernel
theorem lk_Lw_154 : Cond.methodLink "MaypoleGreenLaw" 154 m_Md_slipAt.1 ∈ aw_T := aw_in 1840 (by decide +kernel) rfl
theorem in_Md_slipAt : Cond.instanceMethod m_Md_slipAt.1 ∈ aw_T := aw_in 1841 (by decide +kernel) rfl
theorem se_Md_slipAt : Cond.selects m_Md_slipAt.1.cls m_Md_slipAt.1 m_Md_slipAt.1 ∈ aw_T := aw_in 1842 (by decide +kernel) rfl
theorem d_law_1202 : decode code 1202 = .ok (.if_icmp .eq 417, 3) := by decide +kernel
theorem d_law_1205 : decode code 1205 = .ok (.iconst 0, 1) := by decide +kernel
theorem d_law_1206 : decode code 1206 = .ok (.ireturn, 1) := by decide +kernel
theorem d_law_1207 : decode code 1207 = .ok (.aload_n 1, 1) := by decide +kernel
theorem d_law_1208 : decode code 1208 = .ok (.aload_n 0, 1) := by decide +kernel
theorem d_law_1209 : decode code 1209 = .ok (.iload_n 3, 1) := by decide +kernel
theorem d_law_1210 : decode code 1210 = .ok (.iconst 1, 1) := by decide +kernel
theorem d_law_1211 : decode code 1211 = .ok (.iadd, 1) := by decide +kernel
theorem d_law_1212 : decode code 1212 = .ok (.iaload, 1) := by decide +kernel
theorem d_law_1213 : decode code 1213 = .ok (.aload_n 0, 1) := by decide +kernel
theorem d_law_1214 : decode code 1214 = .ok (.iload_n 3, 1) := by decide +kernel
theorem d_law_1215 : decode code 1215 = .ok (.iconst 2, 1) := by decide +kernel
theorem d_law_1216 : decode code 1216 = .ok (.iadd, 1) := by decide +kernel
theorem d_law_1217 : decode code 1217 = .ok (.iaload, 1) := by decide +kernel
theorem d_law_1218 : decode code 1218 = .ok (.aload_n 0, 1) := by decide +kernel
theorem d_law_1219 : decode code 1219 = .ok (.iload_n 3, 1) := by decide +kernel
theorem d_law_1220 : decode code 1220 = .ok (.iconst 3, 1) := by decide +kernel
theorem d_law_1221 : decode code 1221 = .ok (.iadd, 1) := by decide +kernel
theorem d_law_1222 : decode code 1222 = .ok (.iaload, 1) := by decide +kernel
theorem d_law_1223 : decode code 1223 = .ok (.invokevirtual 155, 3) := by decide +kernel
theorem lk_Lw_155 : Cond.methodLink "MaypoleGreenLaw" 155 m_Mg_fits.1 ∈ aw_T := aw_in 1036 (by decide +kernel) rfl
theorem in_Mg_fits : Cond.instanceMethod m_Mg_fits.1 ∈ aw_T := aw_in 1037 (by decide +kernel) rfl
theorem se_Mg_fits : Cond.selects m_Mg_fits.1.cls m_Mg_fits.1 m_Mg_fits.1 ∈ aw_T := aw_in 1038 (by decide +kernel) rfl
theorem d_law_1226 : decode code 1226 = .ok (.aload_n 2, 1) := by decide +kernel
theorem d_law_1227 : decode code 1227 = .ok (.aload_n 0, 1) := by decide +kernel
theorem d_law_1228 : decode code 1228 = .ok (.iload_n 3, 1) := by decide +kernel
theorem d_law_1229 : decode code 1229 = .ok (.iconst 1, 1) := by decide +kernel
theorem d_law_1230 : decode code 1230 = .ok (.iadd, 1) := by decide +kernel
theorem d_law_1231 : decode code 1231 = .ok (.iaload, 1) := by decide +kernel
theorem d_law_1232 : decode code 1232 = .ok (.aload_n 0, 1) := by decide +kernel
theorem d_law_1233 : decode code 1233 = .ok (.iload_n 3, 1) := by decide +kernel
theorem d_law_1234 : decode code 1234 = .ok (.iconst 2, 1) := by decide +kernel
theorem d_law_1235 : decode code 1235 = .ok (.iadd, 1) := by decide +kernel
theorem d_law_1236 : decode code 1236 = .ok (.iaload, 1) := by decide +kernel
theorem d_law_1237 : decode code 1237 = .ok (.aload_n 0, 1) := by decide +kernel
theorem d_law_1238 : decode code 1238 = .ok (.iload_n 3, 1) := by decide +kernel
theorem d_law_1239 : decode code 1239 = .ok (.iconst 3, 1) := by decide +kernel
theorem d_law_1240 : decode code 1240 = .ok (.iadd, 1) := by decide +kernel
theorem d_law_1241 : decode code 1241 = .ok (.iaload, 1) := by decide +kernel
theorem d_law_1242 : decode code 1242 = .ok (.invokevirtual 158, 3) := by decide +kernel
theorem lk_Lw_158 : Cond.methodLink "MaypoleGreenLaw" 158 m_Md_fits.1 ∈ aw_T := aw_in 1848 (by decide +kernel) rfl
theorem in_Md_fits : Cond.instanceMethod m_Md_fits.1 ∈ aw_T := aw_in 1849 (by decide +kernel) rfl
theorem se_Md_fits : Cond.selects m_Md_fits.1.cls m_Md_fits.1 m_Md_fits.1 ∈ aw_T := aw_in 1850 (by decide +kernel) rfl
theorem d_law_1245 : decode code 1245 = .ok (.if_icmp .eq 374, 3) := by decide +kernel
theorem d_law_1248 : decode code 1248 = .ok (.iconst 0, 1) := by decide +kernel
theorem d_law_1249 : decode code 1249 = .ok (.ireturn, 1) := by decide +kernel
theorem d_law_1250 : decode code 1250 = .ok (.aload_n 1, 1) := by decide +kernel
theorem d_law_1251 : decode code 1251 = .ok (.aload_n 0, 1) := by decide +kernel
theorem d_law_1252 : decode code 1252 = .ok (.iload_n 3, 1) := by decide +kernel
theorem d_law_1253 : decode code 1253 = .ok (.iconst 1, 1) := by decide +kernel
theorem d_law_1254 : decode code 1254 = .ok (.iadd, 1) := by decide +kernel
theorem d_law_1255 : decode code 1255 = .ok (.iaload, 1) := by decide +kernel
theorem d_law_1256 : decode code 1256 = .ok (.aload_n 0, 1) := by decide +kernel
theorem d_law_1257 : decode code 1257 = .ok (.iload_n 3, 1) := by decide +kernel
theorem d_law_1258 : decode code 1258 = .ok (.iconst 2, 1) := by decide +kernel
theorem d_law_1259 : decode code 1259 = .ok (.iadd, 1) := by decide +kernel
theorem d_law_1260 : decode code 1260 = .ok (.iaload, 1) := by decide +kernel
theorem d_law_1261 : decode code 1261 = .ok (.aload_n 0, 1) := by decide +kernel
theorem d_law_1262 : decode code 1262 = .ok (.iload_n 3, 1) := by decide +kernel
theorem d_law_1263 : decode code 1263 = .ok (.iconst 3, 1) := by decide +kernel
theorem d_law_1264 : decode code 1264 = .ok (.iadd, 1) := by decide +kernel
theorem d_law_1265 : decode code 1265 = .ok (.iaload, 1) := by decide +kernel
theorem d_law_1266 : decode code 1266 = .ok (.aload_n 0, 1) := by decide +kernel
theorem d_law_1267 : decode code 1267 = .ok (.iload_n 3, 1) := by decide +kernel
theorem d_law_1268 : decode code 1268 = .ok (.iconst 4, 1) := by decide +kernel
theorem d_law_1269 : decode code 1269 = .ok (.iadd, 1) := by decide +kernel
theorem d_law_1270 : decode code 1270 = .ok (.iaload, 1) := by decide +kernel
theorem d_law_1271 : decode code 1271 = .ok (.invokevirtual 159, 3) := by decide +kernel
theorem lk_Lw_159 : Cond.methodLink "MaypoleGreenLaw" 159 m_Mg_fitsAt.1 ∈ aw_T := aw_in 1106 (by decide +kernel) rfl
theorem in_Mg_fitsAt : Cond.instanceMethod m_Mg_fitsAt.1 ∈ aw_T := aw_in 1107 (by decide +kernel) rfl
theorem se_Mg_fitsAt : Cond.selects m_Mg_fitsAt.1.cls m_Mg_fitsAt.1 m_Mg_fitsAt.1 ∈ aw_T := aw_in 1108 (by decide +kernel) rfl
theorem d_law_1274 : decode code 1274 = .ok (.aload_n 2, 1) := by decide +kernel
theorem d_law_1275 : decode code 1275 = .ok (.aload_n 0, 1) := by decide +kernel
theorem d_law_1276 : decode code 1276 = .ok (.iload_n 3, 1) := by decide +kernel
theorem d_law_1277 : decode code 1277 = .ok (.iconst 1, 1) := by decide +kernel
theorem d_law_1278 : decode code 1278 = .ok (.iadd, 1) := by decide +kernel
theorem d_law_1279 : decode code 1279 = .ok (.iaload, 1) := by decide +kernel
theorem d_law_1280 : decode code 1280 = .ok (.aload_n 0, 1) := by decide +kernel
theorem d_law_1281 : decode code 1281 = .ok (.iload_n 3, 1) := by decide +kernel
theorem d_law_1282 : decode code 1282 = .ok (.iconst 2, 1) := by decide +kernel
theorem d_law_1283 : decode code 1283 = .ok (.iadd, 1) := by decide +kernel
theorem d_law_1284 : decode code 1284 = .ok (.iaload, 1) := by decide +kernel
theorem d_law_1285 : decode code 1285 = .ok (.aload_n 0, 1) := by decide +kernel
theorem d_law_1286 : decode code 1286 = .ok (.iload_n 3, 1) := by decide +kernel
theorem d_law_1287 : decode code 1287 = .ok (.iconst 3, 1) := by decide +kernel
theorem d_law_1288 : decode code 1288 = .ok (.iadd, 1) := by decide +kernel
theorem d_law_1289 : decode code 1289 = .ok (.iaload, 1) := by decide +kernel
theorem d_law_1290 : decode code 1290 = .ok (.aload_n 0, 1) := by decide +kernel
theorem d_law_1291 : decode code 1291 = .ok (.iload_n 3, 1) := by decide +kernel
theorem d_law_1292 : decode code 1292 = .ok (.iconst 4, 1) := by decide +kernel
theorem d_law_1293 : decode code 1293 = .ok (.iadd, 1) := by decide +kernel
theorem d_law_1294 : decode code 1294 = .ok (.iaload, 1) := by decide +kernel
theorem d_law_1295 : decode code 1295 = .ok (.invokevirtual 163, 3) := by decide +kernel
theorem lk_Lw_163 : Cond.methodLink "MaypoleGreenLaw" 163 m_Md_fitsAt.1 ∈ aw_T := aw_in 1878 (by decide +kernel) rfl
theorem in_Md_fitsAt : Cond.instanceMethod m_Md_fitsAt.1 ∈ aw_T := aw_in 1879 (by decide +kernel) rfl
theorem se_Md_fitsAt : Cond.selects m_Md_fitsAt.1.cls m_Md_fitsAt.1 m_Md_fitsAt.1 ∈ aw_T := aw_in 1880 (by decide +kernel) rfl
theorem d_law_1298 : decode code 1298 = .ok (.if_icmp .eq 321, 3) := by decide +kernel
theorem d_law_1301 : decode code 1301 = .ok (.iconst 0, 1) := by decide +kernel
theorem d_law_1302 : decode code 1302 = .ok (.ireturn, 1) := by decide +kernel
theorem d_law_1303 : decode code 1303 = .ok (.aload_n 1, 1) := by decide +kernel
theorem d_law_1304 : decode code 1304 = .ok (.aload_n 0, 1) := by decide +kernel
theorem d_law_1305 : decode code 1305 = .ok (.iload_n 3, 1) := by decide +kernel
theorem d_law_1306 : decode code 1306 = .ok (.iconst 1, 1) := by decide +kernel
theorem d_law_1307 : decode code 1307 = .ok (.iadd, 1) := by decide +kernel
theorem d_law_1308 : decode code 1308 = .ok (.iaload, 1) := by decide +kernel
theorem d_law_1309 : decode code 1309 = .ok (.aload_n 0, 1) := by decide +kernel
theorem d_law_1310 : decode code 1310 = .ok (.iload_n 3, 1) := by decide +kernel
theorem d_law_1311 : decode code 1311 = .ok (.iconst 2, 1) := by decide +kernel
theorem d_law_1312 : decode code 1312 = .ok (.iadd, 1) := by decide +kernel
theorem d_law_1313 : decode code 1313 = .ok (.iaload, 1) := by decide +kernel
theorem d_law_1314 : decode code 1314 = .ok (.aload_n 0, 1) := by decide +kernel
theorem d_law_1315 : decode code 1315 = .ok (.iload_n 3, 1) := by decide +kernel
theorem d_law_1316 : decode code 1316 = .ok (.iconst 3, 1) := by decide +kernel
theorem d_law_1317 : decode code 1317 = .ok (.iadd, 1) := by decide +kernel
theorem d_law_1318 : decode code 1318 = .ok (.iaload, 1) := by decide +kernel
theorem d_law_1319 : decode code 1319 = .ok (.invokevirtual 164, 3) := by decide +kernel
theorem lk_Lw_164 : Cond.methodLink "MaypoleGreenLaw" 164 m_Mg_ask.1 ∈ aw_T := aw_in 1110 (by decide +kernel) rfl
theorem in_Mg_ask : Cond.instanceMethod m_Mg_ask.1 ∈ aw_T := aw_in 1111 (by decide +kernel) rfl
theorem se_Mg_ask : Cond.selects m_Mg_ask.1.cls m_Mg_ask.1 m_Mg_ask.1 ∈ aw_T := aw_in 1112 (by decide +kernel) rfl
theorem d_law_1322 : decode code 1322 = .ok (.aload_n 2, 1) := by decide +kernel
theorem d_law_1323 : decode code 1323 = .ok (.aload_n 0, 1) := by decide +kernel
theorem d_law_1324 : decode code 1324 = .ok (.iload_n 3, 1) := by decide +kernel
theorem d_law_1325 : decode code 1325 = .ok (.iconst 1, 1) := by decide +kernel
theorem d_law_1326 : decode code 1326 = .ok (.iadd, 1) := by decide +kernel
theorem d_law_1327 : decode code 1327 = .ok (.iaload, 1) := by decide +kernel
theorem d_law_1328 : decode code 1328 = .ok (.aload_n 0, 1) := by decide +kernel
theorem d_law_1329 : decode code 1329 = .ok (.iload_n 3, 1) := by decide +kernel
theorem d_law_1330 : decode code 1330 = .ok (.iconst 2, 1) := by decide +kernel
theorem d_law_1331 : decode code 1331 = .ok (.iadd, 1) := by decide +kernel
theorem d_law_1332 : decode code 1332 = .ok (.iaload, 1) := by decide +kernel
theorem d_law_1333 : decode code 1333 = .ok (.aload_n 0, 1) := by decide +kernel
theorem d_law_1334 : decode code 1334 = .ok (.iload_n 3, 1) := by decide +kernel
theorem d_law_1335 : decode code 1335 = .ok (.iconst 3, 1) := by decide +kernel
theorem d_law_1336 : decode code 1336 = .ok (.iadd, 1) := by decide +kernel
theorem d_law_1337 : decode code 1337 = .ok (.iaload, 1) := by decide +kernel
theorem d_law_1338 : decode code 1338 = .ok (.invokevirtual 167, 3) := by decide +kernel
theorem lk_Lw_167 : Cond.methodLink "MaypoleGreenLaw" 167 m_Md_ask.1 ∈ aw_T := aw_in 1882 (by decide +kernel) rfl
theorem in_Md_ask : Cond.instanceMethod m_Md_ask.1 ∈ aw_T := aw_in 1883 (by decide +kernel) rfl
theorem se_Md_ask : Cond.selects m_Md_ask.1.cls m_Md_ask.1 m_Md_ask.1 ∈ aw_T := aw_in 1884 (by decide +kernel) rfl
theorem d_law_1341 : decode code 1341 = .ok (.if_icmp .eq 278, 3) := by decide +kernel
theorem d_law_1344 : decode code 1344 = .ok (.iconst 0, 1) := by decide +kernel
theorem d_law_1345 : decode code 1345 = .ok (.ireturn, 1) := by decide +kernel
theorem d_law_1346 : decode code 1346 = .ok (.aload_n 1, 1) := by decide +kernel
theorem d_law_1347 : decode code 1347 = .ok (.aload_n 0, 1) := by decide +kernel
theorem d_law_1348 : decode code 1348 = .ok (.iload_n 3, 1) := by decide +kernel
theorem d_law_1349 : decode code 1349 = .ok (.iconst 1, 1) := by decide +kernel
theorem d_law_1350 : decode code 1350 = .ok (.iadd, 1) := by decide +kernel
theorem d_law_1351 : decode code 1351 = .ok (.iaload, 1) := by decide +kernel
theorem d_law_1352 : decode code 1352 = .ok (.invokevirtual 168, 3) := by decide +kernel
theorem lk_Lw_168 : Cond.methodLink "MaypoleGreenLaw" 168 m_Mg_game.1 ∈ aw_T := aw_in 1119 (by decide +kernel) rfl
theorem in_Mg_game : Cond.instanceMethod m_Mg_game.1 ∈ aw_T := aw_in 1120 (by decide +kernel) rfl
theorem se_Mg_game : Cond.selects m_Mg_game.1.cls m_Mg_game.1 m_Mg_game.1 ∈ aw_T := aw_in 1121 (by decide +kernel) rfl
theorem d_law_1355 : decode code 1355 = .ok (.aload_n 2, 1) := by decide +kernel
theorem d_law_1356 : decode code 1356 = .ok (.aload_n 0, 1) := by decide +kernel
theorem d_law_1357 : decode code 1357 = .ok (.iload_n 3, 1) := by decide +kernel
theorem d_law_1358 : decode code 1358 = .ok (.iconst 1, 1) := by decide +kernel
theorem d_law_1359 : decode code 1359 = .ok (.iadd, 1) := by decide +kernel
theorem d_law_1360 : decode code 1360 = .ok (.iaload, 1) := by decide +kernel
theorem d_law_1361 : decode code 1361 = .ok (.invokevirtual 171, 3) := by decide +kernel
theorem lk_Lw_171 : Cond.methodLink "MaypoleGreenLaw" 171 m_Md_game.1 ∈ aw_T := aw_in 1890 (by decide +kernel) rfl
theorem in_Md_game : Cond.instanceMethod m_Md_game.1 ∈ aw_T := aw_in 1891 (by decide +kernel) rfl
theorem se_Md_game : Cond.selects m_Md_game.1.cls m_Md_game.1 m_Md_game.1 ∈ aw_T := aw_in 1892 (by decide +kernel) rfl
theorem d_law_1364 : decode code 1364 = .ok (.if_icmp .eq 255, 3) := by decide +kernel
theorem d_law_1367 : decode code 1367 = .ok (.iconst 0, 1) := by decide +kernel
theorem d_law_1368 : decode code 1368 = .ok (.ireturn, 1) := by decide +kernel
theorem d_law_1369 : decode code 1369 = .ok (.aload_n 1, 1) := by decide +kernel
theorem d_law_1370 : decode code 1370 = .ok (.aload_n 0, 1) := by decide +kernel
theorem d_law_1371 : decode code 1371 = .ok (.iload_n 3, 1) := by decide +kernel
theorem d_law_1372 : decode code 1372 = .ok (.iconst 1, 1) := by decide +kernel
theorem d_law_1373 : decode code 1373 = .ok (.iadd, 1) := by decide +kernel
theorem d_law_1374 : decode code 1374 = .ok (.iaload, 1) := by decide +kernel
theorem d_law_1375 : decode code 1375 = .ok (.invokevirtual 172, 3) := by decide +kernel
theorem lk_Lw_172 : Cond.methodLink "MaypoleGreenLaw" 172 m_Mg_moveOf.1 ∈ aw_T := aw_in 1133 (by decide +kernel) rfl
theorem in_Mg_moveOf : Cond.instanceMethod m_Mg_moveOf.1 ∈ aw_T := aw_in 1134 (by decide +kernel) rfl
theorem se_Mg_moveOf : Cond.selects m_Mg_moveOf.1.cls m_Mg_moveOf.1 m_Mg_moveOf.1 ∈ aw_T := aw_in 1135 (by decide +kernel) rfl
theorem d_law_1378 : decode code 1378 = .ok (.aload_n 2, 1) := by decide +kernel
theorem d_law_1379 : decode code 1379 = .ok (.aload_n 0, 1) := by decide +kernel
theorem d_law_1380 : decode code 1380 = .ok (.iload_n 3, 1) := by decide +kernel
theorem d_law_1381 : decode code 1381 = .ok (.iconst 1, 1) := by decide +kernel
theorem d_law_1382 : decode code 1382 = .ok (.iadd, 1) := by decide +kernel
theorem d_law_1383 : decode code 1383 = .ok (.iaload, 1) := by decide +kernel
theorem d_law_1384 : decode code 1384 = .ok (.invokevirtual 175, 3) := by decide +kernel
theorem lk_Lw_175 : Cond.methodLink "MaypoleGreenLaw" 175 m_Md_moveOf.1 ∈ aw_T := aw_in 1907 (by decide +kernel) rfl
theorem in_Md_moveOf : Cond.instanceMethod m_Md_moveOf.1 ∈ aw_T := aw_in 1908 (by decide +kernel) rfl
theorem se_Md_moveOf : Cond.selects m_Md_moveOf.1.cls m_Md_moveOf.1 m_Md_moveOf.1 ∈ aw_T := aw_in 1909 (by decide +kernel) rfl
theorem d_law_1387 : decode code 1387 = .ok (.if_icmp .eq 232, 3) := by decide +kernel
theorem d_law_1390 : decode code 1390 = .ok (.iconst 0, 1) := by decide +kernel
theorem d_law_1391 : decode code 1391 = .ok (.ireturn, 1) := by decide +kernel
theorem d_law_1392 : decode code 1392 = .ok (.aload_n 1, 1) := by decide +kernel
theorem d_law_1393 : decode code 1393 = .ok (.aload_n 0, 1) := by decide +kernel
theorem d_law_1394 : decode code 1394 = .ok (.iload_n 3, 1) := by decide +kernel
theorem d_law_1395 : decode code 1395 = .ok (.iconst 1, 1) := by decide +kernel
theorem d_law_1396 : decode code 1396 = .ok (.iadd, 1) := by decide +kernel
theorem d_law_1397 : decode code 1397 = .ok (.iaload, 1) := by decide +kernel
theorem d_law_1398 : decode code 1398 = .ok (.aload_n 0, 1) := by decide +kernel
theorem d_law_1399 : decode code 1399 = .ok (.iload_n 3, 1) := by decide +kernel
theorem d_law_1400 : decode code 1400 = .ok (.iconst 2, 1) := by decide +kernel
theorem d_law_1401 : decode code 1401 = .ok (.iadd, 1) := by decide +kernel
theorem d_law_1402 : decode code 1402 = .ok (.iaload, 1) := by decide +kernel
theorem d_law_1403 : decode code 1403 = .ok (.invokevirtual 176, 3) := by decide +kernel
theorem lk_Lw_176 : Cond.methodLink "MaypoleGreenLaw" 176 m_Mg_slipped.1 ∈ aw_T := aw_in 1140 (by decide +kernel) rfl
theorem in_Mg_slipped : Cond.instanceMethod m_Mg_slipped.1 ∈ aw_T := aw_in 1141 (by decide +kernel) rfl
theorem se_Mg_slipped : Cond.selects m_Mg_slipped.1.cls m_Mg_slipped.1 m_Mg_slipped.1 ∈ aw_T := aw_in 1142 (by decide +kernel) rfl
theorem d_law_1406 : decode code 1406 = .ok (.aload_n 2, 1) := by decide +kernel
theorem d_law_1407 : decode code 1407 = .ok (.aload_n 0, 1) := by decide +kernel
theorem d_law_1408 : decode code 1408 = .ok (.iload_n 3, 1) := by decide +kernel
theorem d_law_1409 : decode code 1409 = .ok (.iconst 1, 1) := by decide +kernel
theorem d_law_1410 : decode code 1410 = .ok (.iadd, 1) := by decide +kernel
theorem d_law_1411 : decode code 1411 = .ok (.iaload, 1) := by decide +kernel
theorem d_law_1412 : decode code 1412 = .ok (.aload_n 0, 1) := by decide +kernel
theorem d_law_1413 : decode code 1413 = .ok (.iload_n 3, 1) := by decide +kernel
theorem d_law_1414 : decode code 1414 = .ok (.iconst 2, 1) := by decide +kernel
theorem d_law_1415 : decode code 1415 = .ok (.iadd, 1) := by decide +kernel
theorem d_law_1416 : decode code 1416 = .ok (.iaload, 1) := by decide +kernel
theorem d_law_1417 : decode code 1417 = .ok (.invokevirtual 179, 3) := by decide +kernel
theorem lk_Lw_179 : Cond.methodLink "MaypoleGreenLaw" 179 m_Md_slipped.1 ∈ aw_T := aw_in 1911 (by decide +kernel) rfl
theorem in_Md_slipped : Cond.instanceMethod m_Md_slipped.1 ∈ aw_T := aw_in 1912 (by decide +kernel) rfl
theorem se_Md_slipped : Cond.selects m_Md_slipped.1.cls m_Md_slipped.1 m_Md_slipped.1 ∈ aw_T := aw_in 1913 (by decide +kernel) rfl
theorem d_law_1420 : decode code 1420 = .ok (.if_icmp .eq 199, 3) := by decide +kernel
theorem d_law_1423 : decode code 1423 = .ok (.iconst 0, 1) := by decide +kernel
theorem d_law_1424 : decode code 1424 = .ok (.ireturn, 1) := by decide +kernel
theorem d_law_1425 : decode code 1425 = .ok (.aload_n 1, 1) := by decide +kernel
theorem d_law_1426 : decode code 1426 = .ok (.aload_n 0, 1) := by decide +kernel
theorem d_law_1427 : decode code 1427 = .ok (.iload_n 3, 1) := by decide +kernel
theorem d_law_1428 : decode code 1428 = .ok (.iconst 1, 1) := by decide +kernel
theorem d_law_1429 : decode code 1429 = .ok (.iadd, 1) := by decide +kernel
theorem d_law_1430 : decode code 1430 = .ok (.iaload, 1) := by decide +kernel
theorem d_law_1431 : decode code 1431 = .ok (.aload_n 0, 1) := by decide +kernel
theorem d_law_1432 : decode code 1432 = .ok (.iload_n 3, 1) := by decide +kernel
theorem d_law_1433 : decode code 1433 = .ok (.iconst 2, 1) := by decide +kernel
theorem d_law_1434 : decode code 1434 = .ok (.iadd, 1) := by decide +kernel
theorem d_law_1435 : decode code 1435 = .ok (.iaload, 1) := by decide +kernel
theorem d_law_1436 : decode code 1436 = .ok (.aload_n 0, 1) := by decide +kernel
theorem d_law_1437 : decode code 1437 = .ok (.iload_n 3, 1) := by decide +kernel
theorem d_law_1438 : decode code 1438 = .ok (.iconst 3, 1) := by decide +kernel
theorem d_law_1439 : decode code 1439 = .ok (.iadd, 1) := by decide +kernel
theorem d_law_1440 : decode code 1440 = .ok (.iaload, 1) := by decide +kernel
theorem d_law_1441 : decode code 1441 = .ok (.invokevirtual 180, 3) := by decide +kernel
theorem lk_Lw_180 : Cond.methodLink "MaypoleGreenLaw" 180 m_Mg_drift.1 ∈ aw_T := aw_in 1157 (by decide +kernel) rfl
theorem in_Mg_drift : Cond.instanceMethod m_Mg_drift.1 ∈ aw_T := aw_in 1158 (by decide +kernel) rfl
theorem se_Mg_drift : Cond.selects m_Mg_drift.1.cls m_Mg_drift.1 m_Mg_drift.1 ∈ aw_T := aw_in 1159 (by decide +kernel) rfl
theorem d_law_1444 : decode code 1444 = .ok (.aload_n 2, 1) := by decide +kernel
theorem d_law_1445 : decode code 1445 = .ok (.aload_n 0, 1) := by decide +kernel
theorem d_law_1446 : decode code 1446 = .ok (.iload_n 3, 1) := by decide +kernel
theorem d_law_1447 : decode code 1447 = .ok (.iconst 1, 1) := by decide +kernel
theorem d_law_1448 : decode code 1448 = .ok (.iadd, 1) := by decide +kernel
theorem d_law_1449 : decode code 1449 = .ok (.iaload, 1) := by decide +kernel
theorem d_law_1450 : decode code 1450 = .ok (.aload_n 0, 1) := by decide +kernel
theorem d_law_1451 : decode code 1451 = .ok (.iload_n 3, 1) := by decide +kernel
theorem d_law_1452 : decode code 1452 = .ok (.iconst 2, 1) := by decide +kernel
theorem d_law_1453 : decode code 1453 = .ok (.iadd, 1) := by decide +kernel
theorem d_law_1454 : decode code 1454 = .ok (.iaload, 1) := by decide +kernel
theorem d_law_1455 : decode code 1455 = .ok (.aload_n 0, 1) := by decide +kernel
theorem d_law_1456 : decode code 1456 = .ok (.iload_n 3, 1) := by decide +kernel
theorem d_law_1457 : decode code 1457 = .ok (.iconst 3, 1) := by decide +kernel
theorem d_law_1458 : decode code 1458 = .ok (.iadd, 1) := by decide +kernel
theorem d_law_1459 : decode code 1459 = .ok (.iaload, 1) := by decide +kernel
theorem d_law_1460 : decode code 1460 = .ok (.invokevirtual 183, 3) := by decide +kernel
theorem lk_Lw_183 : Cond.methodLink "MaypoleGreenLaw" 183 m_Md_drift.1 ∈ aw_T := aw_in 1920 (by decide +kernel) rfl
theorem in_Md_drift : Cond.instanceMethod m_Md_drift.1 ∈ aw_T := aw_in 1921 (by decide +kernel) rfl
theorem se_Md_drift : Cond.selects m_Md_drift.1.cls m_Md_drift.1 m_Md_drift.1 ∈ aw_T := aw_in 1922 (by decide +kernel) rfl
theorem d_law_1463 : decode code 1463 = .ok (.if_icmp .eq 156, 3) := by decide +kernel
theorem d_law_1466 : decode code 1466 = .ok (.iconst 0, 1) := by decide +kernel
theorem d_law_1467 : decode code 1467 = .ok (.ireturn, 1) := by decide +kernel
theorem d_law_1468 : decode code 1468 = .ok (.aload_n 1, 1) := by decide +kernel
theorem d_law_1469 : decode code 1469 = .ok (.aload_n 0, 1) := by decide +kernel
theorem d_law_1470 : decode code 1470 = .ok (.iload_n 3, 1) := by decide +kernel
theorem d_law_1471 : decode code 1471 = .ok (.iconst 1, 1) := by decide +kernel
theorem d_law_1472 : decode code 1472 = .ok (.iadd, 1) := by decide +kernel
theorem d_law_1473 : decode code 1473 = .ok (.iaload, 1) := by decide +kernel
theorem d_law_1474 : decode code 1474 = .ok (.invokevirtual 184, 3) := by decide +kernel
theorem lk_Lw_184 : Cond.methodLink "MaypoleGreenLaw" 184 m_Mg_share.1 ∈ aw_T := aw_in 1171 (by decide +kernel) rfl
theorem in_Mg_share : Cond.instanceMethod m_Mg_share.1 ∈ aw_T := aw_in 1172 (by decide +kernel) rfl
theorem se_Mg_share : Cond.selects m_Mg_share.1.cls m_Mg_share.1 m_Mg_share.1 ∈ aw_T := aw_in 1173 (by decide +kernel) rfl
theorem d_law_1477 : decode code 1477 = .ok (.aload_n 2, 1) := by decide +kernel
theorem d_law_1478 : decode code 1478 = .ok (.aload_n 0, 1) := by decide +kernel
theorem d_law_1479 : decode code 1479 = .ok (.iload_n 3, 1) := by decide +kernel
theorem d_law_1480 : decode code 1480 = .ok (.iconst 1, 1) := by decide +kernel
theorem d_law_1481 : decode code 1481 = .ok (.iadd, 1) := by decide +kernel
theorem d_law_1482 : decode code 1482 = .ok (.iaload, 1) := by decide +kernel
theorem d_law_1483 : decode code 1483 = .ok (.invokevirtual 188, 3) := by decide +kernel
theorem lk_Lw_188 : Cond.methodLink "MaypoleGreenLaw" 188 m_Md_share.1 ∈ aw_T := aw_in 1924 (by decide +kernel) rfl
theorem in_Md_share : Cond.instanceMethod m_Md_share.1 ∈ aw_T := aw_in 1925 (by decide +kernel) rfl
theorem se_Md_share : Cond.selects m_Md_share.1.cls m_Md_share.1 m_Md_share.1 ∈ aw_T := aw_in 1926 (by decide +kernel) rfl
theorem d_law_1486 : decode code 1486 = .ok (.if_icmp .eq 133, 3) := by decide +kernel
theorem d_law_1489 : decode code 1489 = .ok (.iconst 0, 1) := by decide +kernel
theorem d_law_1490 : decode code 1490 = .ok (.ireturn, 1) := by decide +kernel
theorem d_law_1491 : decode code 1491 = .ok (.aload_n 1, 1) := by decide +kernel
theorem d_law_1492 : decode code 1492 = .ok (.aload_n 0, 1) := by decide +kernel
theorem d_law_1493 : decode code 1493 = .ok (.iload_n 3, 1) := by decide +kernel
theorem d_law_1494 : decode code 1494 = .ok (.iconst 1, 1) := by decide +kernel
theorem d_law_1495 : decode code 1495 = .ok (.iadd, 1) := by decide +kernel
theorem d_law_1496 : decode code 1496 = .ok (.iaload, 1) := by decide +kernel
theorem d_law_1497 : decode code 1497 = .ok (.invokevirtual 189, 3) := by decide +kernel
theorem lk_Lw_189 : Cond.methodLink "MaypoleGreenLaw" 189 m_Mg_copyShows.1 ∈ aw_T := aw_in 1176 (by decide +kernel) rfl
theorem in_Mg_copyShows : Cond.instanceMethod m_Mg_copyShows.1 ∈ aw_T := aw_in 1177 (by decide +kernel) rfl
theorem se_Mg_copyShows : Cond.selects m_Mg_copyShows.1.cls m_Mg_copyShows.1 m_Mg_copyShows.1 ∈ aw_T := aw_in 1178 (by decide +kernel) rfl
theorem d_law_1500 : decode code 1500 = .ok (.aload_n 2, 1) := by decide +kernel
theorem d_law_1501 : decode code 1501 = .ok (.aload_n 0, 1) := by decide +kernel
theorem d_law_1502 : decode code 1502 = .ok (.iload_n 3, 1) := by decide +kernel
theorem d_law_1503 : decode code 1503 = .ok (.iconst 1, 1) := by decide +kernel
theorem d_law_1504 : decode code 1504 = .ok (.iadd, 1) := by decide +kernel
theorem d_law_1505 : decode code 1505 = .ok (.iaload, 1) := by decide +kernel
theorem d_law_1506 : decode code 1506 = .ok (.invokevirtual 192, 3) := by decide +kernel
theorem lk_Lw_192 : Cond.methodLink "MaypoleGreenLaw" 192 m_Md_copyShows.1 ∈ aw_T := aw_in 1928 (by decide +kernel) rfl
theorem in_Md_copyShows : Cond.instanceMethod m_Md_copyShows.1 ∈ aw_T := aw_in 1929 (by decide +kernel) rfl
theorem se_Md_copyShows : Cond.selects m_Md_copyShows.1.cls m_Md_copyShows.1 m_Md_copyShows.1 ∈ aw_T := aw_in 1930 (by decide +kernel) rfl
theorem d_law_1509 : decode code 1509 = .ok (.if_icmp .eq 110, 3) := by decide +kernel
theorem d_law_1512 : decode code 1512 = .ok (.iconst 0, 1) := by decide +kernel
theorem d_law_1513 : decode code 1513 = .ok (.ireturn, 1) := by decide +kernel
theorem d_law_1514 : decode code 1514 = .ok (.aload_n 1, 1) := by decide +kernel
theorem d_law_1515 : decode code 1515 = .ok (.aload_n 0, 1) := by decide +kernel
theorem d_law_1516 : decode code 1516 = .ok (.iload_n 3, 1) := by decide +kernel
theorem d_law_1517 : decode code 1517 = .ok (.iconst 1, 1) := by decide +kernel
theorem d_law_1518 : decode code 1518 = .ok (.iadd, 1) := by decide +kernel
theorem d_law_1519 : decode code 1519 = .ok (.iaload, 1) := by decide +kernel
theorem d_law_1520 : decode code 1520 = .ok (.invokevirtual 193, 3) := by decide +kernel
theorem lk_Lw_193 : Cond.methodLink "MaypoleGreenLaw" 193 m_Mg_live.1 ∈ aw_T := aw_in 1180 (by decide +kernel) rfl
theorem in_Mg_live : Cond.instanceMethod m_Mg_live.1 ∈ aw_T := aw_in 1181 (by decide +kernel) rfl
theorem se_Mg_live : Cond.selects m_Mg_live.1.cls m_Mg_live.1 m_Mg_live.1 ∈ aw_T := aw_in 1182 (by decide +kernel) rfl
theorem d_law_1523 : decode code 1523 = .ok (.aload_n 2, 1) := by decide +kernel
theorem d_law_1524 : decode code 1524 = .ok (.aload_n 0, 1) := by decide +kernel
theorem d_law_1525 : decode code 1525 = .ok (.iload_n 3, 1) := by decide +kernel
theorem d_law_1526 : decode code 1526 = .ok (.iconst 1, 1) := by decide +kernel
theorem d_law_1527 : decode code 1527 = .ok (.iadd, 1) := by decide +kernel
theorem d_law_1528 : decode code 1528 = .ok (.iaload, 1) := by decide +kernel
theorem d_law_1529 : decode code 1529 = .ok (.invokevirtual 196, 3) := by decide +kernel
theorem lk_Lw_196 : Cond.methodLink "MaypoleGreenLaw" 196 m_Md_live.1 ∈ aw_T := aw_in 1932 (by decide +kernel) rfl
theorem in_Md_live : Cond.instanceMethod m_Md_live.1 ∈ aw_T := aw_in 1933 (by decide +kernel) rfl
theorem se_Md_live : Cond.selects m_Md_live.1.cls m_Md_live.1 m_Md_live.1 ∈ aw_T := aw_in 1934 (by decide +kernel) rfl
theorem d_law_1532 : decode code 1532 = .ok (.if_icmp .eq 87, 3) := by decide +kernel
theorem d_law_1535 : decode code 1535 = .ok (.iconst 0, 1) := by decide +kernel
theorem d_law_1536 : decode code 1536 = .ok (.ireturn, 1) := by decide +kernel
theorem d_law_1537 : decode code 1537 = .ok (.aload_n 1, 1) := by decide +kernel
theorem d_law_1538 : decode code 1538 = .ok (.aload_n 0, 1) := by decide +kernel
theorem d_law_1539 : decode code 1539 = .ok (.iload_n 3, 1) := by decide +kernel
theorem d_law_1540 : decode code 1540 = .ok (.iconst 1, 1) := by decide +kernel
theorem d_law_1541 : decode code 1541 = .ok (.iadd, 1) := by decide +kernel
theorem d_law_1542 : decode code 1542 = .ok (.iaload, 1) := by decide +kernel
theorem d_law_1543 : decode code 1543 = .ok (.invokevirtual 197, 3) := by decide +kernel
theorem lk_Lw_197 : Cond.methodLink "MaypoleGreenLaw" 197 m_Mg_lived.1 ∈ aw_T := aw_in 1228 (by decide +kernel) rfl
theorem in_Mg_lived : Cond.instanceMethod m_Mg_lived.1 ∈ aw_T := aw_in 1229 (by decide +kernel) rfl
theorem se_Mg_lived : Cond.selects m_Mg_lived.1.cls m_Mg_lived.1 m_Mg_lived.1 ∈ aw_T := aw_in 1230 (by decide +kernel) rfl
theorem d_law_1546 : decode code 1546 = .ok (.aload_n 2, 1) := by decide +kernel
theorem d_law_1547 : decode code 1547 = .ok (.aload_n 0, 1) := by decide +kernel
theorem d_law_1548 : decode code 1548 = .ok (.iload_n 3, 1) := by decide +kernel
theorem d_law_1549 : decode code 1549 = .ok (.iconst 1, 1) := by decide +kernel
theorem d_law_1550 : decode code 1550 = .ok (.iadd, 1) := by decide +kernel
theorem d_law_1551 : decode code 1551 = .ok (.iaload, 1) := by decide +kernel
theorem d_law_1552 : decode code 1552 = .ok (.invokevirtual 200, 3) := by decide +kernel
theorem lk_Lw_200 : Cond.methodLink "MaypoleGreenLaw" 200 m_Md_lived.1 ∈ aw_T := aw_in 1974 (by decide +kernel) rfl
theorem in_Md_lived : Cond.instanceMethod m_Md_lived.1 ∈ aw_T := aw_in 1975 (by decide +kernel) rfl
theorem se_Md_lived : Cond.selects m_Md_lived.1.cls m_Md_lived.1 m_Md_lived.1 ∈ aw_T := aw_in 1976 (by decide +kernel) rfl
theorem d_law_1555 : decode code 1555 = .ok (.if_icmp .eq 64, 3) := by decide +kernel
theorem d_law_1558 : decode code 1558 = .ok (.iconst 0, 1) := by decide +kernel
theorem d_law_1559 : decode code 1559 = .ok (.ireturn, 1) := by decide +kernel
theorem d_law_1560 : decode code 1560 = .ok (.aload_n 1, 1) := by decide +kernel
theorem d_law_1561 : decode code 1561 = .ok (.aload_n 0, 1) := by decide +kernel
theorem d_law_1562 : decode code 1562 = .ok (.iload_n 3, 1) := by decide +kernel
theorem d_law_1563 : decode code 1563 = .ok (.iconst 1, 1) := by decide +kernel
theorem d_law_1564 : decode code 1564 = .ok (.iadd, 1) := by decide +kernel
theorem d_law_1565 : decode code 1565 = .ok (.iaload, 1) := by decide +kernel
theorem d_law_1566 : decode code 1566 = .ok (.aload_n 0, 1) := by decide +kernel
theorem d_law_1567 : decode code 1567 = .ok (.iload_n 3, 1) := by decide +kernel
theorem d_law_1568 : decode code 1568 = .ok (.iconst 2, 1) := by decide +kernel
theorem d_law_1569 : decode code 1569 = .ok (.iadd, 1) := by decide +kernel
theorem d_law_1570 : decode code 1570 = .ok (.iaload, 1) := by decide +kernel
theorem d_law_1571 : decode code 1571 = .ok (.invokevirtual 201, 3) := by decide +kernel
theorem lk_Lw_201 : Cond.methodLink "MaypoleGreenLaw" 201 m_Mg_mean.1 ∈ aw_T := aw_in 1232 (by decide +kernel) rfl
theorem in_Mg_mean : Cond.instanceMethod m_Mg_mean.1 ∈ aw_T := aw_in 1233 (by decide +kernel) rfl
theorem se_Mg_mean : Cond.selects m_Mg_mean.1.cls m_Mg_mean.1 m_Mg_mean.1 ∈ aw_T := aw_in 1234 (by decide +kernel) rfl
theorem d_law_1574 : decode code 1574 = .ok (.aload_n 2, 1) := by decide +kernel
theorem d_law_1575 : decode code 1575 = .ok (.aload_n 0, 1) := by decide +kernel
theorem d_law_1576 : decode code 1576 = .ok (.iload_n 3, 1) := by decide +kernel
theorem d_law_1577 : decode code 1577 = .ok (.iconst 1, 1) := by decide +kernel
theorem d_law_1578 : decode code 1578 = .ok (.iadd, 1) := by decide +kernel
theorem d_law_1579 : decode code 1579 = .ok (.iaload, 1) := by decide +kernel
theorem d_law_1580 : decode code 1580 = .ok (.aload_n 0, 1) := by decide +kernel
theorem d_law_1581 : decode code 1581 = .ok (.iload_n 3, 1) := by decide +kernel
theorem d_law_1582 : decode code 1582 = .ok (.iconst 2, 1) := by decide +kernel
theorem d_law_1583 : decode code 1583 = .ok (.iadd, 1) := by decide +kernel
theorem d_law_1584 : decode code 1584 = .ok (.iaload, 1) := by decide +kernel
theorem d_law_1585 : decode code 1585 = .ok (.invokevirtual 204, 3) := by decide +kernel
theorem lk_Lw_204 : Cond.methodLink "MaypoleGreenLaw" 204 m_Md_mean.1 ∈ aw_T := aw_in 1978 (by decide +kernel) rfl
theorem in_Md_mean : Cond.instanceMethod m_Md_mean.1 ∈ aw_T := aw_in 1979 (by decide +kernel) rfl
theorem se_Md_mean : Cond.selects m_Md_mean.1.cls m_Md_mean.1 m_Md_mean.1 ∈ aw_T := aw_in 1980 (by decide +kernel) rfl
theorem d_law_1588 : decode code 1588 = .ok (.if_icmp .eq 31, 3) := by decide +kernel
theorem d_law_1591 : decode code 1591 = .ok (.iconst 0, 1) := by decide +kernel
theorem d_law_1592 : decode code 1592 = .ok (.ireturn, 1) := by decide +kernel
theorem d_law_1593 : decode code 1593 = .ok (.aload_n 1, 1) := by decide +kernel
theorem d_law_1594 : decode code 1594 = .ok (.invokevirtual 205, 3) := by decide +kernel
theorem lk_Lw_205 : Cond.methodLink "MaypoleGreenLaw" 205 m_Mg_mark.1 ∈ aw_T := aw_in 1236 (by decide +kernel) rfl
theorem in_Mg_mark : Cond.instanceMethod m_Mg_mark.1 ∈ aw_T := aw_in 1237 (by decide +kernel) rfl
theorem se_Mg_mark : Cond.selects m_Mg_mark.1.cls m_Mg_mark.1 m_Mg_mark.1 ∈ aw_T := aw_in 1238 (by decide +kernel) rfl
theorem d_law_1597 : decode code 1597 = .ok (.aload_n 2, 1) := by decide +kernel
theorem d_law_1598 : decode code 1598 = .ok (.invokevirtual 208, 3) := by decide +kernel
theorem lk_Lw_208 : Cond.methodLink "MaypoleGreenLaw" 208 m_Md_mark.1 ∈ aw_T := aw_in 1982 (by decide +kernel) rfl
theorem in_Md_mark : Cond.instanceMethod m_Md_mark.1 ∈ aw_T := aw_in 1983 (by decide +kernel) rfl
theorem se_Md_mark : Cond.selects m_Md_mark.1.cls m_Md_mark.1 m_Md_mark.1 ∈ aw_T := aw_in 1984 (by decide +kernel) rfl
theorem d_law_1601 : decode code 1601 = .ok (.if_icmp .eq 18, 3) := by decide +kernel
theorem d_law_1604 : decode code 1604 = .ok (.iconst 0, 1) := by decide +kernel
theorem d_law_1605 : decode code 1605 = .ok (.ireturn, 1) := by decide +kernel
theorem d_law_1606 : decode code 1606 = .ok (.aload_n 1, 1) := by decide +kernel
theorem d_law_1607 : decode code 1607 = .ok (.invokevirtual 209, 3) := by decide +kernel
theorem lk_Lw_209 : Cond.methodLink "MaypoleGreenLaw" 209 m_Mg_undo.1 ∈ aw_T := aw_in 1240 (by decide +kernel) rfl
theorem in_Mg_undo : Cond.instanceMethod m_Mg_undo.1 ∈ aw_T := aw_in 1241 (by decide +kernel) rfl
theorem se_Mg_undo : Cond.selects m_Mg_undo.1.cls m_Mg_undo.1 m_Mg_undo.1 ∈ aw_T := aw_in 1242 (by decide +kernel) rfl
theorem d_law_1610 : decode code 1610 = .ok (.aload_n 2, 1) := by decide +kernel
theorem d_law_1611 : decode code 1611 = .ok (.invokevirtual 212, 3) := by decide +kernel
theorem lk_Lw_212 : Cond.methodLink "MaypoleGreenLaw" 212 m_Md_undo.1 ∈ aw_T := aw_in 1990 (by decide +kernel) rfl
theorem in_Md_undo : Cond.instanceMethod m_Md_undo.1 ∈ aw_T := aw_in 1991 (by decide +kernel) rfl
theorem se_Md_undo : Cond.selects m_Md_undo.1.cls m_Md_undo.1 m_Md_undo.1 ∈ aw_T := aw_in 1992 (by decide +kernel) rfl
theorem d_law_1614 : decode code 1614 = .ok (.if_icmp .eq 5, 3) := by decide +kernel
theorem d_law_1617 : decode code 1617 = .ok (.iconst 0, 1) := by decide +kernel
theorem d_law_1618 : decode code 1618 = .ok (.ireturn, 1) := by decide +kernel
theorem d_law_1619 : decode code 1619 = .ok (.iinc 3 6, 3) := by decide +kernel
theorem d_law_1622 : decode code 1622 = .ok (.goto (-1604), 3) := by decide +kernel
