/-! names, words, decode rows of the law -/
def RLA : String := "PostLedgerLaw"
abbrev cLA_post : ByteArray := method_3_code
def yLA_post : MethodName := ⟨RLA, "post", "(LPostLedger;I[J)I"⟩
abbrev cLA_law : ByteArray := code
def yLA_law : MethodName := ⟨RLA, "law", "([I)Z"⟩
theorem mw_350 : (Cond.methodLink RLA 7 yPL_post : Cond) ∈ xTB := xTB_of (i := 387) (by decide +kernel) (by decide +kernel)
theorem mw_351 : (Cond.instanceMethod yPL_post : Cond) ∈ xTB := xTB_of (i := 388) (by decide +kernel) (by decide +kernel)
theorem mw_352 : (Cond.selects RPL yPL_post yPL_post : Cond) ∈ xTB := xTB_of (i := 389) (by decide +kernel) (by decide +kernel)
theorem mw_353 : (Cond.code yPL_post cPL_post 4 (some (.int)) : Cond) ∈ xTB := xTB_of (i := 390) (by decide +kernel) (by decide +kernel)
theorem mw_354 : (Cond.classLink RLA 13 "java/lang/IllegalStateException" : Cond) ∈ xTB := xTB_of (i := 386) (by decide +kernel) (by decide +kernel)
theorem mw_355 : (Cond.methodLink RLA 23 yMO_account : Cond) ∈ xTB := xTB_of (i := 554) (by decide +kernel) (by decide +kernel)
theorem mw_356 : (Cond.instanceMethod yMO_account : Cond) ∈ xTB := xTB_of (i := 555) (by decide +kernel) (by decide +kernel)
theorem mw_357 : (Cond.selects RMO yMO_account yMO_account : Cond) ∈ xTB := xTB_of (i := 556) (by decide +kernel) (by decide +kernel)
theorem mw_358 : (Cond.code yMO_account cMO_account 3 (some (.int)) : Cond) ∈ xTB := xTB_of (i := 557) (by decide +kernel) (by decide +kernel)
theorem mw_359 : (Cond.methodLink RLA 19 yPL_account : Cond) ∈ xTB := xTB_of (i := 93) (by decide +kernel) (by decide +kernel)
theorem mw_360 : (Cond.instanceMethod yPL_account : Cond) ∈ xTB := xTB_of (i := 94) (by decide +kernel) (by decide +kernel)
theorem mw_361 : (Cond.selects RPL yPL_account yPL_account : Cond) ∈ xTB := xTB_of (i := 95) (by decide +kernel) (by decide +kernel)
theorem mw_362 : (Cond.code yPL_account cPL_account 3 (some (.int)) : Cond) ∈ xTB := xTB_of (i := 96) (by decide +kernel) (by decide +kernel)
theorem mw_363 : (Cond.methodLink RLA 30 yMO_batch : Cond) ∈ xTB := xTB_of (i := 565) (by decide +kernel) (by decide +kernel)
theorem mw_364 : (Cond.instanceMethod yMO_batch : Cond) ∈ xTB := xTB_of (i := 566) (by decide +kernel) (by decide +kernel)
theorem mw_365 : (Cond.selects RMO yMO_batch yMO_batch : Cond) ∈ xTB := xTB_of (i := 567) (by decide +kernel) (by decide +kernel)
theorem mw_366 : (Cond.code yMO_batch cMO_batch 3 (some (.int)) : Cond) ∈ xTB := xTB_of (i := 568) (by decide +kernel) (by decide +kernel)
theorem mw_367 : (Cond.constantLong RLA 24 4294967295 : Cond) ∈ xTB := xTB_of (i := 663) (by decide +kernel) (by decide +kernel)
theorem mw_368 : (Cond.methodLink RLA 26 yPL_batch : Cond) ∈ xTB := xTB_of (i := 184) (by decide +kernel) (by decide +kernel)
theorem mw_369 : (Cond.instanceMethod yPL_batch : Cond) ∈ xTB := xTB_of (i := 185) (by decide +kernel) (by decide +kernel)
theorem mw_370 : (Cond.selects RPL yPL_batch yPL_batch : Cond) ∈ xTB := xTB_of (i := 186) (by decide +kernel) (by decide +kernel)
theorem mw_371 : (Cond.code yPL_batch cPL_batch 3 (some (.int)) : Cond) ∈ xTB := xTB_of (i := 187) (by decide +kernel) (by decide +kernel)
theorem mw_372 : (Cond.methodLink RLA 35 yMO_row : Cond) ∈ xTB := xTB_of (i := 575) (by decide +kernel) (by decide +kernel)
theorem mw_373 : (Cond.instanceMethod yMO_row : Cond) ∈ xTB := xTB_of (i := 576) (by decide +kernel) (by decide +kernel)
theorem mw_374 : (Cond.selects RMO yMO_row yMO_row : Cond) ∈ xTB := xTB_of (i := 577) (by decide +kernel) (by decide +kernel)
theorem mw_375 : (Cond.code yMO_row cMO_row 6 (some (.boolean)) : Cond) ∈ xTB := xTB_of (i := 578) (by decide +kernel) (by decide +kernel)
theorem mw_376 : (Cond.methodLink RLA 31 yPL_row : Cond) ∈ xTB := xTB_of (i := 237) (by decide +kernel) (by decide +kernel)
theorem mw_377 : (Cond.instanceMethod yPL_row : Cond) ∈ xTB := xTB_of (i := 238) (by decide +kernel) (by decide +kernel)
theorem mw_378 : (Cond.selects RPL yPL_row yPL_row : Cond) ∈ xTB := xTB_of (i := 239) (by decide +kernel) (by decide +kernel)
theorem mw_379 : (Cond.code yPL_row cPL_row 7 (some (.boolean)) : Cond) ∈ xTB := xTB_of (i := 240) (by decide +kernel) (by decide +kernel)
theorem mw_380 : (Cond.methodLink RLA 42 yMO_thrown : Cond) ∈ xTB := xTB_of (i := 550) (by decide +kernel) (by decide +kernel)
theorem mw_381 : (Cond.instanceMethod yMO_thrown : Cond) ∈ xTB := xTB_of (i := 551) (by decide +kernel) (by decide +kernel)
theorem mw_382 : (Cond.selects RMO yMO_thrown yMO_thrown : Cond) ∈ xTB := xTB_of (i := 552) (by decide +kernel) (by decide +kernel)
theorem mw_383 : (Cond.code yMO_thrown cMO_thrown 1 (some (.int)) : Cond) ∈ xTB := xTB_of (i := 553) (by decide +kernel) (by decide +kernel)
theorem mw_384 : (Cond.methodLink RLA 41 yMO_post : Cond) ∈ xTB := xTB_of (i := 593) (by decide +kernel) (by decide +kernel)
theorem mw_385 : (Cond.instanceMethod yMO_post : Cond) ∈ xTB := xTB_of (i := 594) (by decide +kernel) (by decide +kernel)
theorem mw_386 : (Cond.selects RMO yMO_post yMO_post : Cond) ∈ xTB := xTB_of (i := 595) (by decide +kernel) (by decide +kernel)
theorem mw_387 : (Cond.code yMO_post cMO_post 3 (some (.int)) : Cond) ∈ xTB := xTB_of (i := 596) (by decide +kernel) (by decide +kernel)
theorem mw_388 : (Cond.methodLink RLA 36 yLA_post : Cond) ∈ xTB := xTB_of (i := 383) (by decide +kernel) (by decide +kernel)
theorem mw_389 : (Cond.static yLA_post : Cond) ∈ xTB := xTB_of (i := 384) (by decide +kernel) (by decide +kernel)
theorem mw_390 : (Cond.initialized RLA : Cond) ∈ xTB := xTB_of (i := 24) (by decide +kernel) (by decide +kernel)
theorem mw_391 : (Cond.codeWith yLA_post cLA_post 4 (some (.int)) [(0, 9, 12, 13)] : Cond) ∈ xTB := xTB_of (i := 385) (by decide +kernel) (by decide +kernel)
theorem mw_392 : (Cond.methodLink RLA 50 yMO_balance : Cond) ∈ xTB := xTB_of (i := 615) (by decide +kernel) (by decide +kernel)
theorem mw_393 : (Cond.instanceMethod yMO_balance : Cond) ∈ xTB := xTB_of (i := 616) (by decide +kernel) (by decide +kernel)
theorem mw_394 : (Cond.selects RMO yMO_balance yMO_balance : Cond) ∈ xTB := xTB_of (i := 617) (by decide +kernel) (by decide +kernel)
theorem mw_395 : (Cond.code yMO_balance cMO_balance 4 (some (.long)) : Cond) ∈ xTB := xTB_of (i := 618) (by decide +kernel) (by decide +kernel)
theorem mw_396 : (Cond.methodLink RLA 46 yPL_balance : Cond) ∈ xTB := xTB_of (i := 294) (by decide +kernel) (by decide +kernel)
theorem mw_397 : (Cond.instanceMethod yPL_balance : Cond) ∈ xTB := xTB_of (i := 295) (by decide +kernel) (by decide +kernel)
theorem mw_398 : (Cond.selects RPL yPL_balance yPL_balance : Cond) ∈ xTB := xTB_of (i := 296) (by decide +kernel) (by decide +kernel)
theorem mw_399 : (Cond.code yPL_balance cPL_balance 9 (some (.long)) : Cond) ∈ xTB := xTB_of (i := 297) (by decide +kernel) (by decide +kernel)
theorem mw_400 : (Cond.methodLink RLA 54 yMO_close : Cond) ∈ xTB := xTB_of (i := 620) (by decide +kernel) (by decide +kernel)
theorem mw_401 : (Cond.instanceMethod yMO_close : Cond) ∈ xTB := xTB_of (i := 621) (by decide +kernel) (by decide +kernel)
theorem mw_402 : (Cond.selects RMO yMO_close yMO_close : Cond) ∈ xTB := xTB_of (i := 622) (by decide +kernel) (by decide +kernel)
theorem mw_403 : (Cond.code yMO_close cMO_close 4 (some (.int)) : Cond) ∈ xTB := xTB_of (i := 623) (by decide +kernel) (by decide +kernel)
theorem mw_404 : (Cond.methodLink RLA 51 yPL_close : Cond) ∈ xTB := xTB_of (i := 310) (by decide +kernel) (by decide +kernel)
theorem mw_405 : (Cond.instanceMethod yPL_close : Cond) ∈ xTB := xTB_of (i := 311) (by decide +kernel) (by decide +kernel)
theorem mw_406 : (Cond.selects RPL yPL_close yPL_close : Cond) ∈ xTB := xTB_of (i := 312) (by decide +kernel) (by decide +kernel)
theorem mw_407 : (Cond.code yPL_close cPL_close 4 (some (.int)) : Cond) ∈ xTB := xTB_of (i := 313) (by decide +kernel) (by decide +kernel)
theorem mw_408 : (Cond.methodLink RLA 58 yMO_reverse : Cond) ∈ xTB := xTB_of (i := 624) (by decide +kernel) (by decide +kernel)
theorem mw_409 : (Cond.instanceMethod yMO_reverse : Cond) ∈ xTB := xTB_of (i := 625) (by decide +kernel) (by decide +kernel)
theorem mw_410 : (Cond.selects RMO yMO_reverse yMO_reverse : Cond) ∈ xTB := xTB_of (i := 626) (by decide +kernel) (by decide +kernel)
theorem mw_411 : (Cond.code yMO_reverse cMO_reverse 5 (some (.int)) : Cond) ∈ xTB := xTB_of (i := 627) (by decide +kernel) (by decide +kernel)
theorem mw_412 : (Cond.methodLink RLA 55 yPL_reverse : Cond) ∈ xTB := xTB_of (i := 314) (by decide +kernel) (by decide +kernel)
theorem mw_413 : (Cond.instanceMethod yPL_reverse : Cond) ∈ xTB := xTB_of (i := 315) (by decide +kernel) (by decide +kernel)
theorem mw_414 : (Cond.selects RPL yPL_reverse yPL_reverse : Cond) ∈ xTB := xTB_of (i := 316) (by decide +kernel) (by decide +kernel)
theorem mw_415 : (Cond.code yPL_reverse cPL_reverse 4 (some (.int)) : Cond) ∈ xTB := xTB_of (i := 317) (by decide +kernel) (by decide +kernel)
theorem mw_416 : (Cond.methodLink RLA 63 yMO_stock : Cond) ∈ xTB := xTB_of (i := 632) (by decide +kernel) (by decide +kernel)
theorem mw_417 : (Cond.instanceMethod yMO_stock : Cond) ∈ xTB := xTB_of (i := 633) (by decide +kernel) (by decide +kernel)
theorem mw_418 : (Cond.selects RMO yMO_stock yMO_stock : Cond) ∈ xTB := xTB_of (i := 634) (by decide +kernel) (by decide +kernel)
theorem mw_419 : (Cond.code yMO_stock cMO_stock 11 (some (.int)) : Cond) ∈ xTB := xTB_of (i := 635) (by decide +kernel) (by decide +kernel)
theorem mw_420 : (Cond.methodLink RLA 59 yPL_stock : Cond) ∈ xTB := xTB_of (i := 340) (by decide +kernel) (by decide +kernel)
theorem mw_421 : (Cond.instanceMethod yPL_stock : Cond) ∈ xTB := xTB_of (i := 341) (by decide +kernel) (by decide +kernel)
theorem mw_422 : (Cond.selects RPL yPL_stock yPL_stock : Cond) ∈ xTB := xTB_of (i := 342) (by decide +kernel) (by decide +kernel)
theorem mw_423 : (Cond.code yPL_stock cPL_stock 10 (some (.int)) : Cond) ∈ xTB := xTB_of (i := 343) (by decide +kernel) (by decide +kernel)
theorem mw_424 : (Cond.methodLink RLA 68 yMO_limit : Cond) ∈ xTB := xTB_of (i := 643) (by decide +kernel) (by decide +kernel)
theorem mw_425 : (Cond.instanceMethod yMO_limit : Cond) ∈ xTB := xTB_of (i := 644) (by decide +kernel) (by decide +kernel)
theorem mw_426 : (Cond.selects RMO yMO_limit yMO_limit : Cond) ∈ xTB := xTB_of (i := 645) (by decide +kernel) (by decide +kernel)
theorem mw_427 : (Cond.code yMO_limit cMO_limit 5 (some (.int)) : Cond) ∈ xTB := xTB_of (i := 646) (by decide +kernel) (by decide +kernel)
theorem mw_428 : (Cond.methodLink RLA 64 yPL_limit : Cond) ∈ xTB := xTB_of (i := 358) (by decide +kernel) (by decide +kernel)
theorem mw_429 : (Cond.instanceMethod yPL_limit : Cond) ∈ xTB := xTB_of (i := 359) (by decide +kernel) (by decide +kernel)
theorem mw_430 : (Cond.selects RPL yPL_limit yPL_limit : Cond) ∈ xTB := xTB_of (i := 360) (by decide +kernel) (by decide +kernel)
theorem mw_431 : (Cond.code yPL_limit cPL_limit 6 (some (.int)) : Cond) ∈ xTB := xTB_of (i := 361) (by decide +kernel) (by decide +kernel)
theorem mw_432 : (Cond.methodLink RLA 73 yMO_fails : Cond) ∈ xTB := xTB_of (i := 647) (by decide +kernel) (by decide +kernel)
theorem mw_433 : (Cond.instanceMethod yMO_fails : Cond) ∈ xTB := xTB_of (i := 648) (by decide +kernel) (by decide +kernel)
theorem mw_434 : (Cond.selects RMO yMO_fails yMO_fails : Cond) ∈ xTB := xTB_of (i := 649) (by decide +kernel) (by decide +kernel)
theorem mw_435 : (Cond.code yMO_fails cMO_fails 4 (some (.boolean)) : Cond) ∈ xTB := xTB_of (i := 650) (by decide +kernel) (by decide +kernel)
theorem mw_436 : (Cond.methodLink RLA 69 yPL_fails : Cond) ∈ xTB := xTB_of (i := 363) (by decide +kernel) (by decide +kernel)
theorem mw_437 : (Cond.instanceMethod yPL_fails : Cond) ∈ xTB := xTB_of (i := 364) (by decide +kernel) (by decide +kernel)
theorem mw_438 : (Cond.selects RPL yPL_fails yPL_fails : Cond) ∈ xTB := xTB_of (i := 365) (by decide +kernel) (by decide +kernel)
theorem mw_439 : (Cond.code yPL_fails cPL_fails 4 (some (.boolean)) : Cond) ∈ xTB := xTB_of (i := 366) (by decide +kernel) (by decide +kernel)
theorem mw_440 : (Cond.methodLink RLA 78 yMO_hold : Cond) ∈ xTB := xTB_of (i := 651) (by decide +kernel) (by decide +kernel)
theorem mw_441 : (Cond.instanceMethod yMO_hold : Cond) ∈ xTB := xTB_of (i := 652) (by decide +kernel) (by decide +kernel)
theorem mw_442 : (Cond.selects RMO yMO_hold yMO_hold : Cond) ∈ xTB := xTB_of (i := 653) (by decide +kernel) (by decide +kernel)
theorem mw_443 : (Cond.code yMO_hold cMO_hold 8 (some (.long)) : Cond) ∈ xTB := xTB_of (i := 654) (by decide +kernel) (by decide +kernel)
theorem mw_444 : (Cond.methodLink RLA 74 yPL_hold : Cond) ∈ xTB := xTB_of (i := 367) (by decide +kernel) (by decide +kernel)
theorem mw_445 : (Cond.instanceMethod yPL_hold : Cond) ∈ xTB := xTB_of (i := 368) (by decide +kernel) (by decide +kernel)
theorem mw_446 : (Cond.selects RPL yPL_hold yPL_hold : Cond) ∈ xTB := xTB_of (i := 369) (by decide +kernel) (by decide +kernel)
theorem mw_447 : (Cond.code yPL_hold cPL_hold 7 (some (.long)) : Cond) ∈ xTB := xTB_of (i := 370) (by decide +kernel) (by decide +kernel)
theorem mw_448 : (Cond.methodLink RLA 82 yMO_rows : Cond) ∈ xTB := xTB_of (i := 655) (by decide +kernel) (by decide +kernel)
theorem mw_449 : (Cond.instanceMethod yMO_rows : Cond) ∈ xTB := xTB_of (i := 656) (by decide +kernel) (by decide +kernel)
theorem mw_450 : (Cond.selects RMO yMO_rows yMO_rows : Cond) ∈ xTB := xTB_of (i := 657) (by decide +kernel) (by decide +kernel)
theorem mw_451 : (Cond.code yMO_rows cMO_rows 3 (some (.int)) : Cond) ∈ xTB := xTB_of (i := 658) (by decide +kernel) (by decide +kernel)
theorem mw_452 : (Cond.methodLink RLA 79 yPL_rows : Cond) ∈ xTB := xTB_of (i := 375) (by decide +kernel) (by decide +kernel)
theorem mw_453 : (Cond.instanceMethod yPL_rows : Cond) ∈ xTB := xTB_of (i := 376) (by decide +kernel) (by decide +kernel)
theorem mw_454 : (Cond.selects RPL yPL_rows yPL_rows : Cond) ∈ xTB := xTB_of (i := 377) (by decide +kernel) (by decide +kernel)
theorem mw_455 : (Cond.code yPL_rows cPL_rows 1 (some (.int)) : Cond) ∈ xTB := xTB_of (i := 378) (by decide +kernel) (by decide +kernel)
theorem mw_456 : (Cond.methodLink RLA 87 yMO_all : Cond) ∈ xTB := xTB_of (i := 659) (by decide +kernel) (by decide +kernel)
theorem mw_457 : (Cond.instanceMethod yMO_all : Cond) ∈ xTB := xTB_of (i := 660) (by decide +kernel) (by decide +kernel)
theorem mw_458 : (Cond.selects RMO yMO_all yMO_all : Cond) ∈ xTB := xTB_of (i := 661) (by decide +kernel) (by decide +kernel)
theorem mw_459 : (Cond.code yMO_all cMO_all 4 (some (.long)) : Cond) ∈ xTB := xTB_of (i := 662) (by decide +kernel) (by decide +kernel)
theorem mw_460 : (Cond.methodLink RLA 83 yPL_all : Cond) ∈ xTB := xTB_of (i := 379) (by decide +kernel) (by decide +kernel)
theorem mw_461 : (Cond.instanceMethod yPL_all : Cond) ∈ xTB := xTB_of (i := 380) (by decide +kernel) (by decide +kernel)
theorem mw_462 : (Cond.selects RPL yPL_all yPL_all : Cond) ∈ xTB := xTB_of (i := 381) (by decide +kernel) (by decide +kernel)
theorem mw_463 : (Cond.code yPL_all cPL_all 4 (some (.long)) : Cond) ∈ xTB := xTB_of (i := 382) (by decide +kernel) (by decide +kernel)
theorem mw_464 : (Cond.methodLink RLA 18 yMO_init : Cond) ∈ xTB := xTB_of (i := 490) (by decide +kernel) (by decide +kernel)
theorem mw_465 : (Cond.code yMO_init cMO_init 1 none : Cond) ∈ xTB := xTB_of (i := 492) (by decide +kernel) (by decide +kernel)
theorem mw_466 : (Cond.instanceMethod yMO_init : Cond) ∈ xTB := xTB_of (i := 491) (by decide +kernel) (by decide +kernel)
theorem mw_467 : (Cond.classLink RLA 16 RMO : Cond) ∈ xTB := xTB_of (i := 488) (by decide +kernel) (by decide +kernel)
theorem mw_468 : (Cond.instantiable RMO 17 : Cond) ∈ xTB := xTB_of (i := 489) (by decide +kernel) (by decide +kernel)
theorem mw_469 : (Cond.methodLink RLA 15 yPL_init : Cond) ∈ xTB := xTB_of (i := 48) (by decide +kernel) (by decide +kernel)
theorem mw_470 : (Cond.code yPL_init cPL_init 1 none : Cond) ∈ xTB := xTB_of (i := 50) (by decide +kernel) (by decide +kernel)
theorem mw_471 : (Cond.instanceMethod yPL_init : Cond) ∈ xTB := xTB_of (i := 49) (by decide +kernel) (by decide +kernel)
theorem mw_472 : (Cond.classLink RLA 8 RPL : Cond) ∈ xTB := xTB_of (i := 46) (by decide +kernel) (by decide +kernel)
theorem mw_473 : (Cond.instantiable RPL 4 : Cond) ∈ xTB := xTB_of (i := 47) (by decide +kernel) (by decide +kernel)
theorem dLA_post_0 : decode cLA_post 0 = .ok (.aload_n 2, 1) := by decide +kernel
theorem dLA_post_1 : decode cLA_post 1 = .ok (.iconst 0, 1) := by decide +kernel
theorem dLA_post_2 : decode cLA_post 2 = .ok (.aload_n 0, 1) := by decide +kernel
theorem dLA_post_3 : decode cLA_post 3 = .ok (.iload_n 1, 1) := by decide +kernel
theorem dLA_post_4 : decode cLA_post 4 = .ok (.invokevirtual 7, 3) := by decide +kernel
theorem dLA_post_7 : decode cLA_post 7 = .ok (.i2l, 1) := by decide +kernel
theorem dLA_post_8 : decode cLA_post 8 = .ok (.lastore, 1) := by decide +kernel
theorem dLA_post_9 : decode cLA_post 9 = .ok (.goto 6, 3) := by decide +kernel
theorem dLA_post_12 : decode cLA_post 12 = .ok (.astore_n 3, 1) := by decide +kernel
theorem dLA_post_13 : decode cLA_post 13 = .ok (.iconst 1, 1) := by decide +kernel
theorem dLA_post_14 : decode cLA_post 14 = .ok (.ireturn, 1) := by decide +kernel
theorem dLA_post_15 : decode cLA_post 15 = .ok (.iconst 0, 1) := by decide +kernel
theorem dLA_post_16 : decode cLA_post 16 = .ok (.ireturn, 1) := by decide +kernel
theorem dLA_law_0 : decode cLA_law 0 = .ok (.new 8, 3) := by decide +kernel
theorem dLA_law_3 : decode cLA_law 3 = .ok (.dup, 1) := by decide +kernel
theorem dLA_law_4 : decode cLA_law 4 = .ok (.invokespecial 15, 3) := by decide +kernel
theorem dLA_law_7 : decode cLA_law 7 = .ok (.astore_n 1, 1) := by decide +kernel
theorem dLA_law_8 : decode cLA_law 8 = .ok (.new 16, 3) := by decide +kernel
theorem dLA_law_11 : decode cLA_law 11 = .ok (.dup, 1) := by decide +kernel
theorem dLA_law_12 : decode cLA_law 12 = .ok (.invokespecial 18, 3) := by decide +kernel
theorem dLA_law_15 : decode cLA_law 15 = .ok (.astore_n 2, 1) := by decide +kernel
theorem dLA_law_16 : decode cLA_law 16 = .ok (.iconst 1, 1) := by decide +kernel
theorem dLA_law_17 : decode cLA_law 17 = .ok (.newarray .long, 2) := by decide +kernel
theorem dLA_law_19 : decode cLA_law 19 = .ok (.astore_n 3, 1) := by decide +kernel
theorem dLA_law_20 : decode cLA_law 20 = .ok (.iconst 0, 1) := by decide +kernel
theorem dLA_law_21 : decode cLA_law 21 = .ok (.istore 4, 2) := by decide +kernel
theorem dLA_law_23 : decode cLA_law 23 = .ok (.iload 4, 2) := by decide +kernel
theorem dLA_law_25 : decode cLA_law 25 = .ok (.aload_n 0, 1) := by decide +kernel
theorem dLA_law_26 : decode cLA_law 26 = .ok (.arraylength, 1) := by decide +kernel
theorem dLA_law_27 : decode cLA_law 27 = .ok (.iconst 5, 1) := by decide +kernel
theorem dLA_law_28 : decode cLA_law 28 = .ok (.isub, 1) := by decide +kernel
theorem dLA_law_29 : decode cLA_law 29 = .ok (.if_icmp .gt 720, 3) := by decide +kernel
theorem dLA_law_32 : decode cLA_law 32 = .ok (.aload_n 0, 1) := by decide +kernel
theorem dLA_law_33 : decode cLA_law 33 = .ok (.iload 4, 2) := by decide +kernel
theorem dLA_law_35 : decode cLA_law 35 = .ok (.iaload, 1) := by decide +kernel
theorem dLA_law_36 : decode cLA_law 36 = .ok (.bipush 15, 2) := by decide +kernel
theorem dLA_law_38 : decode cLA_law 38 = .ok (.iand, 1) := by decide +kernel
theorem dLA_law_39 : decode cLA_law 39 = .ok (.tableswitch 704 0 12 #[65, 102, 159, 240, 296, 366, 423, 448, 529, 598, 651, 677, 690], 65) := by decide +kernel
theorem dLA_law_104 : decode cLA_law 104 = .ok (.aload_n 1, 1) := by decide +kernel
theorem dLA_law_105 : decode cLA_law 105 = .ok (.aload_n 0, 1) := by decide +kernel
theorem dLA_law_106 : decode cLA_law 106 = .ok (.iload 4, 2) := by decide +kernel
theorem dLA_law_108 : decode cLA_law 108 = .ok (.iconst 1, 1) := by decide +kernel
theorem dLA_law_109 : decode cLA_law 109 = .ok (.iadd, 1) := by decide +kernel
theorem dLA_law_110 : decode cLA_law 110 = .ok (.iaload, 1) := by decide +kernel
theorem dLA_law_111 : decode cLA_law 111 = .ok (.aload_n 0, 1) := by decide +kernel
theorem dLA_law_112 : decode cLA_law 112 = .ok (.iload 4, 2) := by decide +kernel
theorem dLA_law_114 : decode cLA_law 114 = .ok (.iconst 2, 1) := by decide +kernel
theorem dLA_law_115 : decode cLA_law 115 = .ok (.iadd, 1) := by decide +kernel
theorem dLA_law_116 : decode cLA_law 116 = .ok (.iaload, 1) := by decide +kernel
theorem dLA_law_117 : decode cLA_law 117 = .ok (.invokevirtual 19, 3) := by decide +kernel
theorem dLA_law_120 : decode cLA_law 120 = .ok (.aload_n 2, 1) := by decide +kernel
theorem dLA_law_121 : decode cLA_law 121 = .ok (.aload_n 0, 1) := by decide +kernel
theorem dLA_law_122 : decode cLA_law 122 = .ok (.iload 4, 2) := by decide +kernel
theorem dLA_law_124 : decode cLA_law 124 = .ok (.iconst 1, 1) := by decide +kernel
theorem dLA_law_125 : decode cLA_law 125 = .ok (.iadd, 1) := by decide +kernel
theorem dLA_law_126 : decode cLA_law 126 = .ok (.iaload, 1) := by decide +kernel
theorem dLA_law_127 : decode cLA_law 127 = .ok (.aload_n 0, 1) := by decide +kernel
theorem dLA_law_128 : decode cLA_law 128 = .ok (.iload 4, 2) := by decide +kernel
theorem dLA_law_130 : decode cLA_law 130 = .ok (.iconst 2, 1) := by decide +kernel
theorem dLA_law_131 : decode cLA_law 131 = .ok (.iadd, 1) := by decide +kernel
theorem dLA_law_132 : decode cLA_law 132 = .ok (.iaload, 1) := by decide +kernel
theorem dLA_law_133 : decode cLA_law 133 = .ok (.invokevirtual 23, 3) := by decide +kernel
theorem dLA_law_136 : decode cLA_law 136 = .ok (.if_icmp .eq 607, 3) := by decide +kernel
theorem dLA_law_139 : decode cLA_law 139 = .ok (.iconst 0, 1) := by decide +kernel
theorem dLA_law_140 : decode cLA_law 140 = .ok (.ireturn, 1) := by decide +kernel
theorem dLA_law_141 : decode cLA_law 141 = .ok (.aload_n 1, 1) := by decide +kernel
theorem dLA_law_142 : decode cLA_law 142 = .ok (.aload_n 0, 1) := by decide +kernel
theorem dLA_law_143 : decode cLA_law 143 = .ok (.iload 4, 2) := by decide +kernel
theorem dLA_law_145 : decode cLA_law 145 = .ok (.iconst 1, 1) := by decide +kernel
theorem dLA_law_146 : decode cLA_law 146 = .ok (.iadd, 1) := by decide +kernel
theorem dLA_law_147 : decode cLA_law 147 = .ok (.iaload, 1) := by decide +kernel
theorem dLA_law_148 : decode cLA_law 148 = .ok (.i2l, 1) := by decide +kernel
theorem dLA_law_149 : decode cLA_law 149 = .ok (.bipush 32, 2) := by decide +kernel
theorem dLA_law_151 : decode cLA_law 151 = .ok (.lshl, 1) := by decide +kernel
theorem dLA_law_152 : decode cLA_law 152 = .ok (.aload_n 0, 1) := by decide +kernel
theorem dLA_law_153 : decode cLA_law 153 = .ok (.iload 4, 2) := by decide +kernel
theorem dLA_law_155 : decode cLA_law 155 = .ok (.iconst 2, 1) := by decide +kernel
theorem dLA_law_156 : decode cLA_law 156 = .ok (.iadd, 1) := by decide +kernel
theorem dLA_law_157 : decode cLA_law 157 = .ok (.iaload, 1) := by decide +kernel
theorem dLA_law_158 : decode cLA_law 158 = .ok (.i2l, 1) := by decide +kernel
theorem dLA_law_159 : decode cLA_law 159 = .ok (.ldc2_w 24, 3) := by decide +kernel
theorem dLA_law_162 : decode cLA_law 162 = .ok (.land, 1) := by decide +kernel
theorem dLA_law_163 : decode cLA_law 163 = .ok (.lor, 1) := by decide +kernel
theorem dLA_law_164 : decode cLA_law 164 = .ok (.invokevirtual 26, 3) := by decide +kernel
theorem dLA_law_167 : decode cLA_law 167 = .ok (.aload_n 2, 1) := by decide +kernel
theorem dLA_law_168 : decode cLA_law 168 = .ok (.aload_n 0, 1) := by decide +kernel
theorem dLA_law_169 : decode cLA_law 169 = .ok (.iload 4, 2) := by decide +kernel
theorem dLA_law_171 : decode cLA_law 171 = .ok (.iconst 1, 1) := by decide +kernel
theorem dLA_law_172 : decode cLA_law 172 = .ok (.iadd, 1) := by decide +kernel
theorem dLA_law_173 : decode cLA_law 173 = .ok (.iaload, 1) := by decide +kernel
theorem dLA_law_174 : decode cLA_law 174 = .ok (.i2l, 1) := by decide +kernel
theorem dLA_law_175 : decode cLA_law 175 = .ok (.bipush 32, 2) := by decide +kernel
theorem dLA_law_177 : decode cLA_law 177 = .ok (.lshl, 1) := by decide +kernel
theorem dLA_law_178 : decode cLA_law 178 = .ok (.aload_n 0, 1) := by decide +kernel
theorem dLA_law_179 : decode cLA_law 179 = .ok (.iload 4, 2) := by decide +kernel
theorem dLA_law_181 : decode cLA_law 181 = .ok (.iconst 2, 1) := by decide +kernel
theorem dLA_law_182 : decode cLA_law 182 = .ok (.iadd, 1) := by decide +kernel
theorem dLA_law_183 : decode cLA_law 183 = .ok (.iaload, 1) := by decide +kernel
theorem dLA_law_184 : decode cLA_law 184 = .ok (.i2l, 1) := by decide +kernel
theorem dLA_law_185 : decode cLA_law 185 = .ok (.ldc2_w 24, 3) := by decide +kernel
theorem dLA_law_188 : decode cLA_law 188 = .ok (.land, 1) := by decide +kernel
theorem dLA_law_189 : decode cLA_law 189 = .ok (.lor, 1) := by decide +kernel
theorem dLA_law_190 : decode cLA_law 190 = .ok (.invokevirtual 30, 3) := by decide +kernel
theorem dLA_law_193 : decode cLA_law 193 = .ok (.if_icmp .eq 550, 3) := by decide +kernel
theorem dLA_law_196 : decode cLA_law 196 = .ok (.iconst 0, 1) := by decide +kernel
theorem dLA_law_197 : decode cLA_law 197 = .ok (.ireturn, 1) := by decide +kernel
theorem dLA_law_198 : decode cLA_law 198 = .ok (.aload_n 1, 1) := by decide +kernel
theorem dLA_law_199 : decode cLA_law 199 = .ok (.aload_n 0, 1) := by decide +kernel
theorem dLA_law_200 : decode cLA_law 200 = .ok (.iload 4, 2) := by decide +kernel
theorem dLA_law_202 : decode cLA_law 202 = .ok (.iconst 1, 1) := by decide +kernel
theorem dLA_law_203 : decode cLA_law 203 = .ok (.iadd, 1) := by decide +kernel
theorem dLA_law_204 : decode cLA_law 204 = .ok (.iaload, 1) := by decide +kernel
theorem dLA_law_205 : decode cLA_law 205 = .ok (.aload_n 0, 1) := by decide +kernel
theorem dLA_law_206 : decode cLA_law 206 = .ok (.iload 4, 2) := by decide +kernel
theorem dLA_law_208 : decode cLA_law 208 = .ok (.iconst 2, 1) := by decide +kernel
theorem dLA_law_209 : decode cLA_law 209 = .ok (.iadd, 1) := by decide +kernel
theorem dLA_law_210 : decode cLA_law 210 = .ok (.iaload, 1) := by decide +kernel
theorem dLA_law_211 : decode cLA_law 211 = .ok (.aload_n 0, 1) := by decide +kernel
theorem dLA_law_212 : decode cLA_law 212 = .ok (.iload 4, 2) := by decide +kernel
theorem dLA_law_214 : decode cLA_law 214 = .ok (.iconst 3, 1) := by decide +kernel
theorem dLA_law_215 : decode cLA_law 215 = .ok (.iadd, 1) := by decide +kernel
theorem dLA_law_216 : decode cLA_law 216 = .ok (.iaload, 1) := by decide +kernel
theorem dLA_law_217 : decode cLA_law 217 = .ok (.i2l, 1) := by decide +kernel
theorem dLA_law_218 : decode cLA_law 218 = .ok (.bipush 32, 2) := by decide +kernel
theorem dLA_law_220 : decode cLA_law 220 = .ok (.lshl, 1) := by decide +kernel
theorem dLA_law_221 : decode cLA_law 221 = .ok (.aload_n 0, 1) := by decide +kernel
theorem dLA_law_222 : decode cLA_law 222 = .ok (.iload 4, 2) := by decide +kernel
theorem dLA_law_224 : decode cLA_law 224 = .ok (.iconst 4, 1) := by decide +kernel
theorem dLA_law_225 : decode cLA_law 225 = .ok (.iadd, 1) := by decide +kernel
theorem dLA_law_226 : decode cLA_law 226 = .ok (.iaload, 1) := by decide +kernel
theorem dLA_law_227 : decode cLA_law 227 = .ok (.i2l, 1) := by decide +kernel
theorem dLA_law_228 : decode cLA_law 228 = .ok (.ldc2_w 24, 3) := by decide +kernel
theorem dLA_law_231 : decode cLA_law 231 = .ok (.land, 1) := by decide +kernel
theorem dLA_law_232 : decode cLA_law 232 = .ok (.lor, 1) := by decide +kernel
theorem dLA_law_233 : decode cLA_law 233 = .ok (.invokevirtual 31, 3) := by decide +kernel
theorem dLA_law_236 : decode cLA_law 236 = .ok (.aload_n 2, 1) := by decide +kernel
theorem dLA_law_237 : decode cLA_law 237 = .ok (.aload_n 0, 1) := by decide +kernel
theorem dLA_law_238 : decode cLA_law 238 = .ok (.iload 4, 2) := by decide +kernel
theorem dLA_law_240 : decode cLA_law 240 = .ok (.iconst 1, 1) := by decide +kernel
theorem dLA_law_241 : decode cLA_law 241 = .ok (.iadd, 1) := by decide +kernel
theorem dLA_law_242 : decode cLA_law 242 = .ok (.iaload, 1) := by decide +kernel
theorem dLA_law_243 : decode cLA_law 243 = .ok (.aload_n 0, 1) := by decide +kernel
theorem dLA_law_244 : decode cLA_law 244 = .ok (.iload 4, 2) := by decide +kernel
theorem dLA_law_246 : decode cLA_law 246 = .ok (.iconst 2, 1) := by decide +kernel
theorem dLA_law_247 : decode cLA_law 247 = .ok (.iadd, 1) := by decide +kernel
theorem dLA_law_248 : decode cLA_law 248 = .ok (.iaload, 1) := by decide +kernel
theorem dLA_law_249 : decode cLA_law 249 = .ok (.aload_n 0, 1) := by decide +kernel
theorem dLA_law_250 : decode cLA_law 250 = .ok (.iload 4, 2) := by decide +kernel
theorem dLA_law_252 : decode cLA_law 252 = .ok (.iconst 3, 1) := by decide +kernel
theorem dLA_law_253 : decode cLA_law 253 = .ok (.iadd, 1) := by decide +kernel
theorem dLA_law_254 : decode cLA_law 254 = .ok (.iaload, 1) := by decide +kernel
theorem dLA_law_255 : decode cLA_law 255 = .ok (.i2l, 1) := by decide +kernel
theorem dLA_law_256 : decode cLA_law 256 = .ok (.bipush 32, 2) := by decide +kernel
theorem dLA_law_258 : decode cLA_law 258 = .ok (.lshl, 1) := by decide +kernel
theorem dLA_law_259 : decode cLA_law 259 = .ok (.aload_n 0, 1) := by decide +kernel
theorem dLA_law_260 : decode cLA_law 260 = .ok (.iload 4, 2) := by decide +kernel
theorem dLA_law_262 : decode cLA_law 262 = .ok (.iconst 4, 1) := by decide +kernel
theorem dLA_law_263 : decode cLA_law 263 = .ok (.iadd, 1) := by decide +kernel
theorem dLA_law_264 : decode cLA_law 264 = .ok (.iaload, 1) := by decide +kernel
theorem dLA_law_265 : decode cLA_law 265 = .ok (.i2l, 1) := by decide +kernel
theorem dLA_law_266 : decode cLA_law 266 = .ok (.ldc2_w 24, 3) := by decide +kernel
theorem dLA_law_269 : decode cLA_law 269 = .ok (.land, 1) := by decide +kernel
theorem dLA_law_270 : decode cLA_law 270 = .ok (.lor, 1) := by decide +kernel
theorem dLA_law_271 : decode cLA_law 271 = .ok (.invokevirtual 35, 3) := by decide +kernel
theorem dLA_law_274 : decode cLA_law 274 = .ok (.if_icmp .eq 469, 3) := by decide +kernel
theorem dLA_law_277 : decode cLA_law 277 = .ok (.iconst 0, 1) := by decide +kernel
theorem dLA_law_278 : decode cLA_law 278 = .ok (.ireturn, 1) := by decide +kernel
theorem dLA_law_279 : decode cLA_law 279 = .ok (.aload_n 1, 1) := by decide +kernel
theorem dLA_law_280 : decode cLA_law 280 = .ok (.aload_n 0, 1) := by decide +kernel
theorem dLA_law_281 : decode cLA_law 281 = .ok (.iload 4, 2) := by decide +kernel
theorem dLA_law_283 : decode cLA_law 283 = .ok (.iconst 1, 1) := by decide +kernel
theorem dLA_law_284 : decode cLA_law 284 = .ok (.iadd, 1) := by decide +kernel
theorem dLA_law_285 : decode cLA_law 285 = .ok (.iaload, 1) := by decide +kernel
theorem dLA_law_286 : decode cLA_law 286 = .ok (.aload_n 3, 1) := by decide +kernel
theorem dLA_law_287 : decode cLA_law 287 = .ok (.invokestatic 36, 3) := by decide +kernel
theorem dLA_law_290 : decode cLA_law 290 = .ok (.istore 5, 2) := by decide +kernel
theorem dLA_law_292 : decode cLA_law 292 = .ok (.aload_n 2, 1) := by decide +kernel
theorem dLA_law_293 : decode cLA_law 293 = .ok (.aload_n 0, 1) := by decide +kernel
theorem dLA_law_294 : decode cLA_law 294 = .ok (.iload 4, 2) := by decide +kernel
theorem dLA_law_296 : decode cLA_law 296 = .ok (.iconst 1, 1) := by decide +kernel
theorem dLA_law_297 : decode cLA_law 297 = .ok (.iadd, 1) := by decide +kernel
theorem dLA_law_298 : decode cLA_law 298 = .ok (.iaload, 1) := by decide +kernel
theorem dLA_law_299 : decode cLA_law 299 = .ok (.invokevirtual 41, 3) := by decide +kernel
theorem dLA_law_302 : decode cLA_law 302 = .ok (.istore 6, 2) := by decide +kernel
theorem dLA_law_304 : decode cLA_law 304 = .ok (.aload_n 2, 1) := by decide +kernel
theorem dLA_law_305 : decode cLA_law 305 = .ok (.invokevirtual 42, 3) := by decide +kernel
theorem dLA_law_308 : decode cLA_law 308 = .ok (.iload 5, 2) := by decide +kernel
theorem dLA_law_310 : decode cLA_law 310 = .ok (.if_icmp .eq 5, 3) := by decide +kernel
theorem dLA_law_313 : decode cLA_law 313 = .ok (.iconst 0, 1) := by decide +kernel
theorem dLA_law_314 : decode cLA_law 314 = .ok (.ireturn, 1) := by decide +kernel
theorem dLA_law_315 : decode cLA_law 315 = .ok (.iload 5, 2) := by decide +kernel
theorem dLA_law_317 : decode cLA_law 317 = .ok (.ifCond .ne 15, 3) := by decide +kernel
theorem dLA_law_320 : decode cLA_law 320 = .ok (.aload_n 3, 1) := by decide +kernel
theorem dLA_law_321 : decode cLA_law 321 = .ok (.iconst 0, 1) := by decide +kernel
theorem dLA_law_322 : decode cLA_law 322 = .ok (.laload, 1) := by decide +kernel
theorem dLA_law_323 : decode cLA_law 323 = .ok (.iload 6, 2) := by decide +kernel
theorem dLA_law_325 : decode cLA_law 325 = .ok (.i2l, 1) := by decide +kernel
theorem dLA_law_326 : decode cLA_law 326 = .ok (.lcmp, 1) := by decide +kernel
theorem dLA_law_327 : decode cLA_law 327 = .ok (.ifCond .eq 5, 3) := by decide +kernel
theorem dLA_law_330 : decode cLA_law 330 = .ok (.iconst 0, 1) := by decide +kernel
theorem dLA_law_331 : decode cLA_law 331 = .ok (.ireturn, 1) := by decide +kernel
theorem dLA_law_332 : decode cLA_law 332 = .ok (.goto 411, 3) := by decide +kernel
theorem dLA_law_335 : decode cLA_law 335 = .ok (.aload_n 1, 1) := by decide +kernel
theorem dLA_law_336 : decode cLA_law 336 = .ok (.aload_n 0, 1) := by decide +kernel
theorem dLA_law_337 : decode cLA_law 337 = .ok (.iload 4, 2) := by decide +kernel
theorem dLA_law_339 : decode cLA_law 339 = .ok (.iconst 1, 1) := by decide +kernel
theorem dLA_law_340 : decode cLA_law 340 = .ok (.iadd, 1) := by decide +kernel
theorem dLA_law_341 : decode cLA_law 341 = .ok (.iaload, 1) := by decide +kernel
theorem dLA_law_342 : decode cLA_law 342 = .ok (.aload_n 0, 1) := by decide +kernel
theorem dLA_law_343 : decode cLA_law 343 = .ok (.iload 4, 2) := by decide +kernel
theorem dLA_law_345 : decode cLA_law 345 = .ok (.iconst 2, 1) := by decide +kernel
theorem dLA_law_346 : decode cLA_law 346 = .ok (.iadd, 1) := by decide +kernel
theorem dLA_law_347 : decode cLA_law 347 = .ok (.iaload, 1) := by decide +kernel
theorem dLA_law_348 : decode cLA_law 348 = .ok (.i2l, 1) := by decide +kernel
theorem dLA_law_349 : decode cLA_law 349 = .ok (.bipush 32, 2) := by decide +kernel
theorem dLA_law_351 : decode cLA_law 351 = .ok (.lshl, 1) := by decide +kernel
theorem dLA_law_352 : decode cLA_law 352 = .ok (.aload_n 0, 1) := by decide +kernel
theorem dLA_law_353 : decode cLA_law 353 = .ok (.iload 4, 2) := by decide +kernel
theorem dLA_law_355 : decode cLA_law 355 = .ok (.iconst 3, 1) := by decide +kernel
theorem dLA_law_356 : decode cLA_law 356 = .ok (.iadd, 1) := by decide +kernel
theorem dLA_law_357 : decode cLA_law 357 = .ok (.iaload, 1) := by decide +kernel
theorem dLA_law_358 : decode cLA_law 358 = .ok (.i2l, 1) := by decide +kernel
theorem dLA_law_359 : decode cLA_law 359 = .ok (.ldc2_w 24, 3) := by decide +kernel
theorem dLA_law_362 : decode cLA_law 362 = .ok (.land, 1) := by decide +kernel
theorem dLA_law_363 : decode cLA_law 363 = .ok (.lor, 1) := by decide +kernel
theorem dLA_law_364 : decode cLA_law 364 = .ok (.invokevirtual 46, 3) := by decide +kernel
theorem dLA_law_367 : decode cLA_law 367 = .ok (.aload_n 2, 1) := by decide +kernel
theorem dLA_law_368 : decode cLA_law 368 = .ok (.aload_n 0, 1) := by decide +kernel
theorem dLA_law_369 : decode cLA_law 369 = .ok (.iload 4, 2) := by decide +kernel
theorem dLA_law_371 : decode cLA_law 371 = .ok (.iconst 1, 1) := by decide +kernel
theorem dLA_law_372 : decode cLA_law 372 = .ok (.iadd, 1) := by decide +kernel
theorem dLA_law_373 : decode cLA_law 373 = .ok (.iaload, 1) := by decide +kernel
theorem dLA_law_374 : decode cLA_law 374 = .ok (.aload_n 0, 1) := by decide +kernel
theorem dLA_law_375 : decode cLA_law 375 = .ok (.iload 4, 2) := by decide +kernel
theorem dLA_law_377 : decode cLA_law 377 = .ok (.iconst 2, 1) := by decide +kernel
theorem dLA_law_378 : decode cLA_law 378 = .ok (.iadd, 1) := by decide +kernel
theorem dLA_law_379 : decode cLA_law 379 = .ok (.iaload, 1) := by decide +kernel
theorem dLA_law_380 : decode cLA_law 380 = .ok (.i2l, 1) := by decide +kernel
theorem dLA_law_381 : decode cLA_law 381 = .ok (.bipush 32, 2) := by decide +kernel
theorem dLA_law_383 : decode cLA_law 383 = .ok (.lshl, 1) := by decide +kernel
theorem dLA_law_384 : decode cLA_law 384 = .ok (.aload_n 0, 1) := by decide +kernel
theorem dLA_law_385 : decode cLA_law 385 = .ok (.iload 4, 2) := by decide +kernel
theorem dLA_law_387 : decode cLA_law 387 = .ok (.iconst 3, 1) := by decide +kernel
theorem dLA_law_388 : decode cLA_law 388 = .ok (.iadd, 1) := by decide +kernel
theorem dLA_law_389 : decode cLA_law 389 = .ok (.iaload, 1) := by decide +kernel
theorem dLA_law_390 : decode cLA_law 390 = .ok (.i2l, 1) := by decide +kernel
theorem dLA_law_391 : decode cLA_law 391 = .ok (.ldc2_w 24, 3) := by decide +kernel
theorem dLA_law_394 : decode cLA_law 394 = .ok (.land, 1) := by decide +kernel
theorem dLA_law_395 : decode cLA_law 395 = .ok (.lor, 1) := by decide +kernel
theorem dLA_law_396 : decode cLA_law 396 = .ok (.invokevirtual 50, 3) := by decide +kernel
theorem dLA_law_399 : decode cLA_law 399 = .ok (.lcmp, 1) := by decide +kernel
theorem dLA_law_400 : decode cLA_law 400 = .ok (.ifCond .eq 343, 3) := by decide +kernel
theorem dLA_law_403 : decode cLA_law 403 = .ok (.iconst 0, 1) := by decide +kernel
theorem dLA_law_404 : decode cLA_law 404 = .ok (.ireturn, 1) := by decide +kernel
theorem dLA_law_405 : decode cLA_law 405 = .ok (.aload_n 1, 1) := by decide +kernel
theorem dLA_law_406 : decode cLA_law 406 = .ok (.aload_n 0, 1) := by decide +kernel
theorem dLA_law_407 : decode cLA_law 407 = .ok (.iload 4, 2) := by decide +kernel
theorem dLA_law_409 : decode cLA_law 409 = .ok (.iconst 1, 1) := by decide +kernel
theorem dLA_law_410 : decode cLA_law 410 = .ok (.iadd, 1) := by decide +kernel
theorem dLA_law_411 : decode cLA_law 411 = .ok (.iaload, 1) := by decide +kernel
theorem dLA_law_412 : decode cLA_law 412 = .ok (.i2l, 1) := by decide +kernel
theorem dLA_law_413 : decode cLA_law 413 = .ok (.bipush 32, 2) := by decide +kernel
theorem dLA_law_415 : decode cLA_law 415 = .ok (.lshl, 1) := by decide +kernel
