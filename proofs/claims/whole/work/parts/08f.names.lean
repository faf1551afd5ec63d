theorem dX9_goesOn_332 : decode cX9_goesOn 332 = .ok (.iload 9, 2) := by decide +kernel
theorem dX9_goesOn_334 : decode cX9_goesOn 334 = .ok (.aload_n 0, 1) := by decide +kernel
theorem dX9_goesOn_335 : decode cX9_goesOn 335 = .ok (.getfield 27, 3) := by decide +kernel
theorem dX9_goesOn_338 : decode cX9_goesOn 338 = .ok (.iload 7, 2) := by decide +kernel
theorem dX9_goesOn_340 : decode cX9_goesOn 340 = .ok (.iaload, 1) := by decide +kernel
theorem dX9_goesOn_341 : decode cX9_goesOn 341 = .ok (.if_icmp .ge 18, 3) := by decide +kernel
theorem dX9_goesOn_344 : decode cX9_goesOn 344 = .ok (.aload_n 0, 1) := by decide +kernel
theorem dX9_goesOn_345 : decode cX9_goesOn 345 = .ok (.iload_n 1, 1) := by decide +kernel
theorem dX9_goesOn_346 : decode cX9_goesOn 346 = .ok (.aload_n 0, 1) := by decide +kernel
theorem dX9_goesOn_347 : decode cX9_goesOn 347 = .ok (.getfield 30, 3) := by decide +kernel
theorem dX9_goesOn_350 : decode cX9_goesOn 350 = .ok (.iload 7, 2) := by decide +kernel
theorem dX9_goesOn_352 : decode cX9_goesOn 352 = .ok (.iaload, 1) := by decide +kernel
theorem dX9_goesOn_353 : decode cX9_goesOn 353 = .ok (.invokevirtual 113, 3) := by decide +kernel
theorem dX9_goesOn_356 : decode cX9_goesOn 356 = .ok (.goto 5, 3) := by decide +kernel
theorem dX9_goesOn_359 : decode cX9_goesOn 359 = .ok (.iload 8, 2) := by decide +kernel
theorem dX9_goesOn_361 : decode cX9_goesOn 361 = .ok (.iload 4, 2) := by decide +kernel
theorem dX9_goesOn_363 : decode cX9_goesOn 363 = .ok (.iload 5, 2) := by decide +kernel
theorem dX9_goesOn_365 : decode cX9_goesOn 365 = .ok (.iload 6, 2) := by decide +kernel
theorem dX9_goesOn_367 : decode cX9_goesOn 367 = .ok (.invokestatic 109, 3) := by decide +kernel
theorem dX9_goesOn_370 : decode cX9_goesOn 370 = .ok (.iload_n 2, 1) := by decide +kernel
theorem dX9_goesOn_371 : decode cX9_goesOn 371 = .ok (.invokevirtual 121, 3) := by decide +kernel
theorem dX9_goesOn_374 : decode cX9_goesOn 374 = .ok (.goto 94, 3) := by decide +kernel
theorem dX9_goesOn_377 : decode cX9_goesOn 377 = .ok (.aload_n 0, 1) := by decide +kernel
theorem dX9_goesOn_378 : decode cX9_goesOn 378 = .ok (.aload_n 0, 1) := by decide +kernel
theorem dX9_goesOn_379 : decode cX9_goesOn 379 = .ok (.iload_n 1, 1) := by decide +kernel
theorem dX9_goesOn_380 : decode cX9_goesOn 380 = .ok (.aload_n 0, 1) := by decide +kernel
theorem dX9_goesOn_381 : decode cX9_goesOn 381 = .ok (.getfield 30, 3) := by decide +kernel
theorem dX9_goesOn_384 : decode cX9_goesOn 384 = .ok (.iload 7, 2) := by decide +kernel
theorem dX9_goesOn_386 : decode cX9_goesOn 386 = .ok (.iaload, 1) := by decide +kernel
theorem dX9_goesOn_387 : decode cX9_goesOn 387 = .ok (.invokevirtual 113, 3) := by decide +kernel
theorem dX9_goesOn_390 : decode cX9_goesOn 390 = .ok (.iload 4, 2) := by decide +kernel
theorem dX9_goesOn_392 : decode cX9_goesOn 392 = .ok (.iload 5, 2) := by decide +kernel
theorem dX9_goesOn_394 : decode cX9_goesOn 394 = .ok (.iload 6, 2) := by decide +kernel
theorem dX9_goesOn_396 : decode cX9_goesOn 396 = .ok (.invokestatic 109, 3) := by decide +kernel
theorem dX9_goesOn_399 : decode cX9_goesOn 399 = .ok (.iload_n 2, 1) := by decide +kernel
theorem dX9_goesOn_400 : decode cX9_goesOn 400 = .ok (.invokevirtual 121, 3) := by decide +kernel
theorem dX9_goesOn_403 : decode cX9_goesOn 403 = .ok (.goto 65, 3) := by decide +kernel
theorem dX9_goesOn_406 : decode cX9_goesOn 406 = .ok (.aload_n 0, 1) := by decide +kernel
theorem dX9_goesOn_407 : decode cX9_goesOn 407 = .ok (.getfield 33, 3) := by decide +kernel
theorem dX9_goesOn_410 : decode cX9_goesOn 410 = .ok (.bipush 64, 2) := by decide +kernel
theorem dX9_goesOn_412 : decode cX9_goesOn 412 = .ok (.iload_n 1, 1) := by decide +kernel
theorem dX9_goesOn_413 : decode cX9_goesOn 413 = .ok (.imul, 1) := by decide +kernel
theorem dX9_goesOn_414 : decode cX9_goesOn 414 = .ok (.bipush 32, 2) := by decide +kernel
theorem dX9_goesOn_416 : decode cX9_goesOn 416 = .ok (.iload 4, 2) := by decide +kernel
theorem dX9_goesOn_418 : decode cX9_goesOn 418 = .ok (.imul, 1) := by decide +kernel
theorem dX9_goesOn_419 : decode cX9_goesOn 419 = .ok (.iadd, 1) := by decide +kernel
theorem dX9_goesOn_420 : decode cX9_goesOn 420 = .ok (.iload 5, 2) := by decide +kernel
theorem dX9_goesOn_422 : decode cX9_goesOn 422 = .ok (.iadd, 1) := by decide +kernel
theorem dX9_goesOn_423 : decode cX9_goesOn 423 = .ok (.dup2, 1) := by decide +kernel
theorem dX9_goesOn_424 : decode cX9_goesOn 424 = .ok (.iaload, 1) := by decide +kernel
theorem dX9_goesOn_425 : decode cX9_goesOn 425 = .ok (.iconst 1, 1) := by decide +kernel
theorem dX9_goesOn_426 : decode cX9_goesOn 426 = .ok (.iload 6, 2) := by decide +kernel
theorem dX9_goesOn_428 : decode cX9_goesOn 428 = .ok (.ishl, 1) := by decide +kernel
theorem dX9_goesOn_429 : decode cX9_goesOn 429 = .ok (.ior, 1) := by decide +kernel
theorem dX9_goesOn_430 : decode cX9_goesOn 430 = .ok (.iastore, 1) := by decide +kernel
theorem dX9_goesOn_431 : decode cX9_goesOn 431 = .ok (.aload_n 0, 1) := by decide +kernel
theorem dX9_goesOn_432 : decode cX9_goesOn 432 = .ok (.iload 8, 2) := by decide +kernel
theorem dX9_goesOn_434 : decode cX9_goesOn 434 = .ok (.iload 4, 2) := by decide +kernel
theorem dX9_goesOn_436 : decode cX9_goesOn 436 = .ok (.iload 5, 2) := by decide +kernel
theorem dX9_goesOn_438 : decode cX9_goesOn 438 = .ok (.iload 6, 2) := by decide +kernel
theorem dX9_goesOn_440 : decode cX9_goesOn 440 = .ok (.invokestatic 109, 3) := by decide +kernel
theorem dX9_goesOn_443 : decode cX9_goesOn 443 = .ok (.iload_n 2, 1) := by decide +kernel
theorem dX9_goesOn_444 : decode cX9_goesOn 444 = .ok (.invokevirtual 121, 3) := by decide +kernel
theorem dX9_goesOn_447 : decode cX9_goesOn 447 = .ok (.goto 21, 3) := by decide +kernel
theorem dX9_goesOn_450 : decode cX9_goesOn 450 = .ok (.aload_n 0, 1) := by decide +kernel
theorem dX9_goesOn_451 : decode cX9_goesOn 451 = .ok (.iload 8, 2) := by decide +kernel
theorem dX9_goesOn_453 : decode cX9_goesOn 453 = .ok (.iconst 1, 1) := by decide +kernel
theorem dX9_goesOn_454 : decode cX9_goesOn 454 = .ok (.iload 5, 2) := by decide +kernel
theorem dX9_goesOn_456 : decode cX9_goesOn 456 = .ok (.iload 6, 2) := by decide +kernel
theorem dX9_goesOn_458 : decode cX9_goesOn 458 = .ok (.invokestatic 109, 3) := by decide +kernel
theorem dX9_goesOn_461 : decode cX9_goesOn 461 = .ok (.iload_n 2, 1) := by decide +kernel
theorem dX9_goesOn_462 : decode cX9_goesOn 462 = .ok (.invokevirtual 121, 3) := by decide +kernel
theorem dX9_goesOn_465 : decode cX9_goesOn 465 = .ok (.goto 3, 3) := by decide +kernel
theorem dX9_goesOn_468 : decode cX9_goesOn 468 = .ok (.return_, 1) := by decide +kernel
theorem dX9_ranksAnew_0 : decode cX9_ranksAnew 0 = .ok (.iconst 0, 1) := by decide +kernel
theorem dX9_ranksAnew_1 : decode cX9_ranksAnew 1 = .ok (.istore_n 1, 1) := by decide +kernel
theorem dX9_ranksAnew_2 : decode cX9_ranksAnew 2 = .ok (.iload_n 1, 1) := by decide +kernel
theorem dX9_ranksAnew_3 : decode cX9_ranksAnew 3 = .ok (.bipush 24, 2) := by decide +kernel
theorem dX9_ranksAnew_5 : decode cX9_ranksAnew 5 = .ok (.if_icmp .gt 104, 3) := by decide +kernel
theorem dX9_ranksAnew_8 : decode cX9_ranksAnew 8 = .ok (.iconst 0, 1) := by decide +kernel
theorem dX9_ranksAnew_9 : decode cX9_ranksAnew 9 = .ok (.istore_n 2, 1) := by decide +kernel
theorem dX9_ranksAnew_10 : decode cX9_ranksAnew 10 = .ok (.iconst 0, 1) := by decide +kernel
theorem dX9_ranksAnew_11 : decode cX9_ranksAnew 11 = .ok (.istore_n 3, 1) := by decide +kernel
theorem dX9_ranksAnew_12 : decode cX9_ranksAnew 12 = .ok (.iload_n 3, 1) := by decide +kernel
theorem dX9_ranksAnew_13 : decode cX9_ranksAnew 13 = .ok (.aload_n 0, 1) := by decide +kernel
theorem dX9_ranksAnew_14 : decode cX9_ranksAnew 14 = .ok (.getfield 106, 3) := by decide +kernel
theorem dX9_ranksAnew_17 : decode cX9_ranksAnew 17 = .ok (.if_icmp .ge 68, 3) := by decide +kernel
theorem dX9_ranksAnew_20 : decode cX9_ranksAnew 20 = .ok (.aload_n 0, 1) := by decide +kernel
theorem dX9_ranksAnew_21 : decode cX9_ranksAnew 21 = .ok (.getfield 77, 3) := by decide +kernel
theorem dX9_ranksAnew_24 : decode cX9_ranksAnew 24 = .ok (.iload_n 3, 1) := by decide +kernel
theorem dX9_ranksAnew_25 : decode cX9_ranksAnew 25 = .ok (.iaload, 1) := by decide +kernel
theorem dX9_ranksAnew_26 : decode cX9_ranksAnew 26 = .ok (.sipush 2048, 3) := by decide +kernel
theorem dX9_ranksAnew_29 : decode cX9_ranksAnew 29 = .ok (.idiv, 1) := by decide +kernel
theorem dX9_ranksAnew_30 : decode cX9_ranksAnew 30 = .ok (.iload_n 1, 1) := by decide +kernel
theorem dX9_ranksAnew_31 : decode cX9_ranksAnew 31 = .ok (.if_icmp .eq 6, 3) := by decide +kernel
theorem dX9_ranksAnew_34 : decode cX9_ranksAnew 34 = .ok (.goto 45, 3) := by decide +kernel
theorem dX9_ranksAnew_37 : decode cX9_ranksAnew 37 = .ok (.aload_n 0, 1) := by decide +kernel
theorem dX9_ranksAnew_38 : decode cX9_ranksAnew 38 = .ok (.getfield 74, 3) := by decide +kernel
theorem dX9_ranksAnew_41 : decode cX9_ranksAnew 41 = .ok (.aload_n 0, 1) := by decide +kernel
theorem dX9_ranksAnew_42 : decode cX9_ranksAnew 42 = .ok (.getfield 77, 3) := by decide +kernel
theorem dX9_ranksAnew_45 : decode cX9_ranksAnew 45 = .ok (.iload_n 3, 1) := by decide +kernel
theorem dX9_ranksAnew_46 : decode cX9_ranksAnew 46 = .ok (.iaload, 1) := by decide +kernel
theorem dX9_ranksAnew_47 : decode cX9_ranksAnew 47 = .ok (.aload_n 0, 1) := by decide +kernel
theorem dX9_ranksAnew_48 : decode cX9_ranksAnew 48 = .ok (.getfield 125, 3) := by decide +kernel
theorem dX9_ranksAnew_51 : decode cX9_ranksAnew 51 = .ok (.iastore, 1) := by decide +kernel
theorem dX9_ranksAnew_52 : decode cX9_ranksAnew 52 = .ok (.aload_n 0, 1) := by decide +kernel
theorem dX9_ranksAnew_53 : decode cX9_ranksAnew 53 = .ok (.getfield 65, 3) := by decide +kernel
theorem dX9_ranksAnew_56 : decode cX9_ranksAnew 56 = .ok (.aload_n 0, 1) := by decide +kernel
theorem dX9_ranksAnew_57 : decode cX9_ranksAnew 57 = .ok (.getfield 128, 3) := by decide +kernel
theorem dX9_ranksAnew_60 : decode cX9_ranksAnew 60 = .ok (.aload_n 0, 1) := by decide +kernel
theorem dX9_ranksAnew_61 : decode cX9_ranksAnew 61 = .ok (.getfield 77, 3) := by decide +kernel
theorem dX9_ranksAnew_64 : decode cX9_ranksAnew 64 = .ok (.iload_n 3, 1) := by decide +kernel
theorem dX9_ranksAnew_65 : decode cX9_ranksAnew 65 = .ok (.iaload, 1) := by decide +kernel
theorem dX9_ranksAnew_66 : decode cX9_ranksAnew 66 = .ok (.iastore, 1) := by decide +kernel
theorem dX9_ranksAnew_67 : decode cX9_ranksAnew 67 = .ok (.aload_n 0, 1) := by decide +kernel
theorem dX9_ranksAnew_68 : decode cX9_ranksAnew 68 = .ok (.dup, 1) := by decide +kernel
theorem dX9_ranksAnew_69 : decode cX9_ranksAnew 69 = .ok (.getfield 128, 3) := by decide +kernel
theorem dX9_ranksAnew_72 : decode cX9_ranksAnew 72 = .ok (.iconst 1, 1) := by decide +kernel
theorem dX9_ranksAnew_73 : decode cX9_ranksAnew 73 = .ok (.iadd, 1) := by decide +kernel
theorem dX9_ranksAnew_74 : decode cX9_ranksAnew 74 = .ok (.putfield 128, 3) := by decide +kernel
theorem dX9_ranksAnew_77 : decode cX9_ranksAnew 77 = .ok (.iconst 1, 1) := by decide +kernel
theorem dX9_ranksAnew_78 : decode cX9_ranksAnew 78 = .ok (.istore_n 2, 1) := by decide +kernel
theorem dX9_ranksAnew_79 : decode cX9_ranksAnew 79 = .ok (.iinc 3 1, 3) := by decide +kernel
theorem dX9_ranksAnew_82 : decode cX9_ranksAnew 82 = .ok (.goto (-70), 3) := by decide +kernel
theorem dX9_ranksAnew_85 : decode cX9_ranksAnew 85 = .ok (.aload_n 0, 1) := by decide +kernel
theorem dX9_ranksAnew_86 : decode cX9_ranksAnew 86 = .ok (.dup, 1) := by decide +kernel
theorem dX9_ranksAnew_87 : decode cX9_ranksAnew 87 = .ok (.getfield 125, 3) := by decide +kernel
theorem dX9_ranksAnew_90 : decode cX9_ranksAnew 90 = .ok (.iload_n 2, 1) := by decide +kernel
theorem dX9_ranksAnew_91 : decode cX9_ranksAnew 91 = .ok (.ifCond .eq 7, 3) := by decide +kernel
theorem dX9_ranksAnew_94 : decode cX9_ranksAnew 94 = .ok (.iconst 1, 1) := by decide +kernel
theorem dX9_ranksAnew_95 : decode cX9_ranksAnew 95 = .ok (.goto 4, 3) := by decide +kernel
theorem dX9_ranksAnew_98 : decode cX9_ranksAnew 98 = .ok (.iconst 0, 1) := by decide +kernel
theorem dX9_ranksAnew_99 : decode cX9_ranksAnew 99 = .ok (.iadd, 1) := by decide +kernel
theorem dX9_ranksAnew_100 : decode cX9_ranksAnew 100 = .ok (.putfield 125, 3) := by decide +kernel
theorem dX9_ranksAnew_103 : decode cX9_ranksAnew 103 = .ok (.iinc 1 1, 3) := by decide +kernel
theorem dX9_ranksAnew_106 : decode cX9_ranksAnew 106 = .ok (.goto (-104), 3) := by decide +kernel
theorem dX9_ranksAnew_109 : decode cX9_ranksAnew 109 = .ok (.aload_n 0, 1) := by decide +kernel
theorem dX9_ranksAnew_110 : decode cX9_ranksAnew 110 = .ok (.iconst 0, 1) := by decide +kernel
theorem dX9_ranksAnew_111 : decode cX9_ranksAnew 111 = .ok (.putfield 106, 3) := by decide +kernel
theorem dX9_ranksAnew_114 : decode cX9_ranksAnew 114 = .ok (.return_, 1) := by decide +kernel
set_option maxRecDepth 20000 in
theorem ggX9_works_X9_endOf : GoodIn wsX9_works wsX9_endOf := goodIn_r _ [19, 13, 42, 43, 44, 45, 46, 47, 48, 49, 50, 51, 52, 53, 54, 55, 56, 57, 58, 59, 60, 61, 62, 63, 64, 65, 66, 67, 68, 69, 70, 71, 72, 73, 74] (by decide +kernel) (by decide +kernel)
set_option maxRecDepth 20000 in
theorem gX9_works_X9_endOf : GoodIn wsX9_works (wsV RX9 113 RX9 yX9_endOf wsX9_endOf) := goodIn_app (goodIn_of _ (by decide +kernel)) ggX9_works_X9_endOf
set_option maxRecDepth 20000 in
theorem ggX9_works_X9_stateOf : GoodIn wsX9_works wsX9_stateOf := goodIn_r _ [22] (by decide +kernel) (by decide +kernel)
set_option maxRecDepth 20000 in
theorem gX9_works_X9_stateOf : GoodIn wsX9_works (va_wsS RX9 109 yX9_stateOf wsX9_stateOf) := goodIn_app (goodIn_of _ (by decide +kernel)) ggX9_works_X9_stateOf
set_option maxRecDepth 20000 in
theorem ggX9_works_X9_ranksAnew : GoodIn wsX9_works wsX9_ranksAnew := goodIn_r _ [26, 9, 11, 14, 8, 12, 7, 42, 43, 44, 45, 46, 47, 48, 49, 50, 51, 52, 53, 54, 55, 56, 57, 58, 59, 60, 61, 62, 63, 64, 65, 66, 67, 68, 69, 70, 71, 72, 73, 74] (by decide +kernel) (by decide +kernel)
set_option maxRecDepth 20000 in
theorem gX9_works_X9_ranksAnew : GoodIn wsX9_works (wsV RX9 131 RX9 yX9_ranksAnew wsX9_ranksAnew) := goodIn_app (goodIn_of _ (by decide +kernel)) ggX9_works_X9_ranksAnew
set_option maxRecDepth 20000 in
theorem ggX9_works_X9_goesOn : GoodIn wsX9_works wsX9_goesOn := goodIn_r _ [30, 13, 31, 32, 33, 34, 4, 15, 16, 17, 18, 19, 35, 36, 37, 20, 21, 22, 38, 39, 40, 41, 6, 10, 11, 9, 42, 43, 44, 45, 46, 47, 48, 49, 50, 51, 52, 53, 54, 55, 56, 57, 58, 59, 60, 61, 62, 63, 64, 65, 66, 67, 68, 69, 70, 71, 72, 73, 74] (by decide +kernel) (by decide +kernel)
set_option maxRecDepth 20000 in
theorem gX9_works_X9_goesOn : GoodIn wsX9_works (wsV RX9 134 RX9 yX9_goesOn wsX9_goesOn) := goodIn_app (goodIn_of _ (by decide +kernel)) ggX9_works_X9_goesOn
theorem dX9_works_0 : decode cX9_works 0 = .ok (.aload_n 0, 1) := by decide +kernel
theorem dX9_works_1 : decode cX9_works 1 = .ok (.getfield 61, 3) := by decide +kernel
theorem dX9_works_4 : decode cX9_works 4 = .ok (.iload_n 1, 1) := by decide +kernel
theorem dX9_works_5 : decode cX9_works 5 = .ok (.if_icmp .ne 4, 3) := by decide +kernel
theorem dX9_works_8 : decode cX9_works 8 = .ok (.return_, 1) := by decide +kernel
theorem dX9_works_9 : decode cX9_works 9 = .ok (.aload_n 0, 1) := by decide +kernel
theorem dX9_works_10 : decode cX9_works 10 = .ok (.iload_n 1, 1) := by decide +kernel
theorem dX9_works_11 : decode cX9_works 11 = .ok (.putfield 61, 3) := by decide +kernel
theorem dX9_works_14 : decode cX9_works 14 = .ok (.aload_n 0, 1) := by decide +kernel
theorem dX9_works_15 : decode cX9_works 15 = .ok (.getfield 42, 3) := by decide +kernel
theorem dX9_works_18 : decode cX9_works 18 = .ok (.iload_n 1, 1) := by decide +kernel
theorem dX9_works_19 : decode cX9_works 19 = .ok (.iconst 1, 1) := by decide +kernel
theorem dX9_works_20 : decode cX9_works 20 = .ok (.bastore, 1) := by decide +kernel
theorem dX9_works_21 : decode cX9_works 21 = .ok (.aload_n 0, 1) := by decide +kernel
theorem dX9_works_22 : decode cX9_works 22 = .ok (.getfield 39, 3) := by decide +kernel
theorem dX9_works_25 : decode cX9_works 25 = .ok (.iload_n 1, 1) := by decide +kernel
theorem dX9_works_26 : decode cX9_works 26 = .ok (.iconst 0, 1) := by decide +kernel
theorem dX9_works_27 : decode cX9_works 27 = .ok (.iastore, 1) := by decide +kernel
theorem dX9_works_28 : decode cX9_works 28 = .ok (.iconst 0, 1) := by decide +kernel
theorem dX9_works_29 : decode cX9_works 29 = .ok (.istore_n 2, 1) := by decide +kernel
theorem dX9_works_30 : decode cX9_works 30 = .ok (.iload_n 2, 1) := by decide +kernel
theorem dX9_works_31 : decode cX9_works 31 = .ok (.bipush 64, 2) := by decide +kernel
theorem dX9_works_33 : decode cX9_works 33 = .ok (.if_icmp .ge 21, 3) := by decide +kernel
theorem dX9_works_36 : decode cX9_works 36 = .ok (.aload_n 0, 1) := by decide +kernel
theorem dX9_works_37 : decode cX9_works 37 = .ok (.getfield 33, 3) := by decide +kernel
theorem dX9_works_40 : decode cX9_works 40 = .ok (.bipush 64, 2) := by decide +kernel
theorem dX9_works_42 : decode cX9_works 42 = .ok (.iload_n 1, 1) := by decide +kernel
theorem dX9_works_43 : decode cX9_works 43 = .ok (.imul, 1) := by decide +kernel
theorem dX9_works_44 : decode cX9_works 44 = .ok (.iload_n 2, 1) := by decide +kernel
theorem dX9_works_45 : decode cX9_works 45 = .ok (.iadd, 1) := by decide +kernel
theorem dX9_works_46 : decode cX9_works 46 = .ok (.iconst 0, 1) := by decide +kernel
theorem dX9_works_47 : decode cX9_works 47 = .ok (.iastore, 1) := by decide +kernel
theorem dX9_works_48 : decode cX9_works 48 = .ok (.iinc 2 1, 3) := by decide +kernel
theorem dX9_works_51 : decode cX9_works 51 = .ok (.goto (-21), 3) := by decide +kernel
theorem dX9_works_54 : decode cX9_works 54 = .ok (.iconst 0, 1) := by decide +kernel
theorem dX9_works_55 : decode cX9_works 55 = .ok (.istore_n 2, 1) := by decide +kernel
theorem dX9_works_56 : decode cX9_works 56 = .ok (.iload_n 2, 1) := by decide +kernel
theorem dX9_works_57 : decode cX9_works 57 = .ok (.ldc 64, 2) := by decide +kernel
theorem dX9_works_59 : decode cX9_works 59 = .ok (.if_icmp .ge 16, 3) := by decide +kernel
theorem dX9_works_62 : decode cX9_works 62 = .ok (.aload_n 0, 1) := by decide +kernel
theorem dX9_works_63 : decode cX9_works 63 = .ok (.getfield 71, 3) := by decide +kernel
theorem dX9_works_66 : decode cX9_works 66 = .ok (.iload_n 2, 1) := by decide +kernel
theorem dX9_works_67 : decode cX9_works 67 = .ok (.iconst (-1), 1) := by decide +kernel
theorem dX9_works_68 : decode cX9_works 68 = .ok (.iastore, 1) := by decide +kernel
theorem dX9_works_69 : decode cX9_works 69 = .ok (.iinc 2 1, 3) := by decide +kernel
theorem dX9_works_72 : decode cX9_works 72 = .ok (.goto (-16), 3) := by decide +kernel
theorem dX9_works_75 : decode cX9_works 75 = .ok (.aload_n 0, 1) := by decide +kernel
theorem dX9_works_76 : decode cX9_works 76 = .ok (.iconst 0, 1) := by decide +kernel
theorem dX9_works_77 : decode cX9_works 77 = .ok (.putfield 128, 3) := by decide +kernel
theorem dX9_works_80 : decode cX9_works 80 = .ok (.aload_n 0, 1) := by decide +kernel
theorem dX9_works_81 : decode cX9_works 81 = .ok (.iconst 0, 1) := by decide +kernel
theorem dX9_works_82 : decode cX9_works 82 = .ok (.putfield 125, 3) := by decide +kernel
theorem dX9_works_85 : decode cX9_works 85 = .ok (.aload_n 0, 1) := by decide +kernel
theorem dX9_works_86 : decode cX9_works 86 = .ok (.iconst 0, 1) := by decide +kernel
theorem dX9_works_87 : decode cX9_works 87 = .ok (.putfield 106, 3) := by decide +kernel
theorem dX9_works_90 : decode cX9_works 90 = .ok (.aload_n 0, 1) := by decide +kernel
theorem dX9_works_91 : decode cX9_works 91 = .ok (.iload_n 1, 1) := by decide +kernel
theorem dX9_works_92 : decode cX9_works 92 = .ok (.iconst 0, 1) := by decide +kernel
theorem dX9_works_93 : decode cX9_works 93 = .ok (.invokevirtual 113, 3) := by decide +kernel
theorem dX9_works_96 : decode cX9_works 96 = .ok (.iconst 0, 1) := by decide +kernel
theorem dX9_works_97 : decode cX9_works 97 = .ok (.iconst 0, 1) := by decide +kernel
theorem dX9_works_98 : decode cX9_works 98 = .ok (.iconst 0, 1) := by decide +kernel
theorem dX9_works_99 : decode cX9_works 99 = .ok (.invokestatic 109, 3) := by decide +kernel
theorem dX9_works_102 : decode cX9_works 102 = .ok (.istore_n 2, 1) := by decide +kernel
theorem dX9_works_103 : decode cX9_works 103 = .ok (.aload_n 0, 1) := by decide +kernel
theorem dX9_works_104 : decode cX9_works 104 = .ok (.getfield 71, 3) := by decide +kernel
theorem dX9_works_107 : decode cX9_works 107 = .ok (.iload_n 2, 1) := by decide +kernel
theorem dX9_works_108 : decode cX9_works 108 = .ok (.iconst 0, 1) := by decide +kernel
theorem dX9_works_109 : decode cX9_works 109 = .ok (.iastore, 1) := by decide +kernel
theorem dX9_works_110 : decode cX9_works 110 = .ok (.aload_n 0, 1) := by decide +kernel
theorem dX9_works_111 : decode cX9_works 111 = .ok (.getfield 68, 3) := by decide +kernel
theorem dX9_works_114 : decode cX9_works 114 = .ok (.iload_n 2, 1) := by decide +kernel
theorem dX9_works_115 : decode cX9_works 115 = .ok (.iconst (-1), 1) := by decide +kernel
theorem dX9_works_116 : decode cX9_works 116 = .ok (.iastore, 1) := by decide +kernel
theorem dX9_works_117 : decode cX9_works 117 = .ok (.aload_n 0, 1) := by decide +kernel
theorem dX9_works_118 : decode cX9_works 118 = .ok (.getfield 77, 3) := by decide +kernel
theorem dX9_works_121 : decode cX9_works 121 = .ok (.iconst 0, 1) := by decide +kernel
theorem dX9_works_122 : decode cX9_works 122 = .ok (.iload_n 2, 1) := by decide +kernel
theorem dX9_works_123 : decode cX9_works 123 = .ok (.iastore, 1) := by decide +kernel
theorem dX9_works_124 : decode cX9_works 124 = .ok (.aload_n 0, 1) := by decide +kernel
theorem dX9_works_125 : decode cX9_works 125 = .ok (.iconst 1, 1) := by decide +kernel
theorem dX9_works_126 : decode cX9_works 126 = .ok (.putfield 106, 3) := by decide +kernel
theorem dX9_works_129 : decode cX9_works 129 = .ok (.aload_n 0, 1) := by decide +kernel
theorem dX9_works_130 : decode cX9_works 130 = .ok (.invokevirtual 131, 3) := by decide +kernel
theorem dX9_works_133 : decode cX9_works 133 = .ok (.iconst 0, 1) := by decide +kernel
theorem dX9_works_134 : decode cX9_works 134 = .ok (.istore_n 3, 1) := by decide +kernel
theorem dX9_works_135 : decode cX9_works 135 = .ok (.iload_n 3, 1) := by decide +kernel
theorem dX9_works_136 : decode cX9_works 136 = .ok (.aload_n 0, 1) := by decide +kernel
theorem dX9_works_137 : decode cX9_works 137 = .ok (.getfield 128, 3) := by decide +kernel
theorem dX9_works_140 : decode cX9_works 140 = .ok (.if_icmp .ge 93, 3) := by decide +kernel
theorem dX9_works_143 : decode cX9_works 143 = .ok (.aload_n 0, 1) := by decide +kernel
theorem dX9_works_144 : decode cX9_works 144 = .ok (.getfield 65, 3) := by decide +kernel
theorem dX9_works_147 : decode cX9_works 147 = .ok (.iload_n 3, 1) := by decide +kernel
theorem dX9_works_148 : decode cX9_works 148 = .ok (.iaload, 1) := by decide +kernel
theorem dX9_works_149 : decode cX9_works 149 = .ok (.istore 4, 2) := by decide +kernel
theorem dX9_works_151 : decode cX9_works 151 = .ok (.iload 4, 2) := by decide +kernel
theorem dX9_works_153 : decode cX9_works 153 = .ok (.sipush 2048, 3) := by decide +kernel
theorem dX9_works_156 : decode cX9_works 156 = .ok (.idiv, 1) := by decide +kernel
theorem dX9_works_157 : decode cX9_works 157 = .ok (.aload_n 0, 1) := by decide +kernel
theorem dX9_works_158 : decode cX9_works 158 = .ok (.getfield 17, 3) := by decide +kernel
theorem dX9_works_161 : decode cX9_works 161 = .ok (.iload_n 1, 1) := by decide +kernel
theorem dX9_works_162 : decode cX9_works 162 = .ok (.iaload, 1) := by decide +kernel
theorem dX9_works_163 : decode cX9_works 163 = .ok (.if_icmp .ge 20, 3) := by decide +kernel
theorem dX9_works_166 : decode cX9_works 166 = .ok (.aload_n 0, 1) := by decide +kernel
theorem dX9_works_167 : decode cX9_works 167 = .ok (.getfield 39, 3) := by decide +kernel
theorem dX9_works_170 : decode cX9_works 170 = .ok (.iload_n 1, 1) := by decide +kernel
theorem dX9_works_171 : decode cX9_works 171 = .ok (.dup2, 1) := by decide +kernel
theorem dX9_works_172 : decode cX9_works 172 = .ok (.iaload, 1) := by decide +kernel
theorem dX9_works_173 : decode cX9_works 173 = .ok (.iconst 1, 1) := by decide +kernel
theorem dX9_works_174 : decode cX9_works 174 = .ok (.iload 4, 2) := by decide +kernel
theorem dX9_works_176 : decode cX9_works 176 = .ok (.sipush 2048, 3) := by decide +kernel
theorem dX9_works_179 : decode cX9_works 179 = .ok (.idiv, 1) := by decide +kernel
theorem dX9_works_180 : decode cX9_works 180 = .ok (.ishl, 1) := by decide +kernel
theorem dX9_works_181 : decode cX9_works 181 = .ok (.ior, 1) := by decide +kernel
theorem dX9_works_182 : decode cX9_works 182 = .ok (.iastore, 1) := by decide +kernel
theorem dX9_works_183 : decode cX9_works 183 = .ok (.aload_n 0, 1) := by decide +kernel
theorem dX9_works_184 : decode cX9_works 184 = .ok (.iload_n 1, 1) := by decide +kernel
theorem dX9_works_185 : decode cX9_works 185 = .ok (.iload 4, 2) := by decide +kernel
theorem dX9_works_187 : decode cX9_works 187 = .ok (.invokevirtual 134, 3) := by decide +kernel
theorem dX9_works_190 : decode cX9_works 190 = .ok (.iload_n 3, 1) := by decide +kernel
theorem dX9_works_191 : decode cX9_works 191 = .ok (.iconst 1, 1) := by decide +kernel
theorem dX9_works_192 : decode cX9_works 192 = .ok (.iadd, 1) := by decide +kernel
theorem dX9_works_193 : decode cX9_works 193 = .ok (.aload_n 0, 1) := by decide +kernel
theorem dX9_works_194 : decode cX9_works 194 = .ok (.getfield 128, 3) := by decide +kernel
theorem dX9_works_197 : decode cX9_works 197 = .ok (.if_icmp .eq 26, 3) := by decide +kernel
theorem dX9_works_200 : decode cX9_works 200 = .ok (.aload_n 0, 1) := by decide +kernel
theorem dX9_works_201 : decode cX9_works 201 = .ok (.getfield 74, 3) := by decide +kernel
theorem dX9_works_204 : decode cX9_works 204 = .ok (.aload_n 0, 1) := by decide +kernel
theorem dX9_works_205 : decode cX9_works 205 = .ok (.getfield 65, 3) := by decide +kernel
theorem dX9_works_208 : decode cX9_works 208 = .ok (.iload_n 3, 1) := by decide +kernel
theorem dX9_works_209 : decode cX9_works 209 = .ok (.iconst 1, 1) := by decide +kernel
theorem dX9_works_210 : decode cX9_works 210 = .ok (.iadd, 1) := by decide +kernel
theorem dX9_works_211 : decode cX9_works 211 = .ok (.iaload, 1) := by decide +kernel
theorem dX9_works_212 : decode cX9_works 212 = .ok (.iaload, 1) := by decide +kernel
theorem dX9_works_213 : decode cX9_works 213 = .ok (.aload_n 0, 1) := by decide +kernel
theorem dX9_works_214 : decode cX9_works 214 = .ok (.getfield 74, 3) := by decide +kernel
theorem dX9_works_217 : decode cX9_works 217 = .ok (.iload 4, 2) := by decide +kernel
theorem dX9_works_219 : decode cX9_works 219 = .ok (.iaload, 1) := by decide +kernel
theorem dX9_works_220 : decode cX9_works 220 = .ok (.if_icmp .eq 7, 3) := by decide +kernel
theorem dX9_works_223 : decode cX9_works 223 = .ok (.aload_n 0, 1) := by decide +kernel
theorem dX9_works_224 : decode cX9_works 224 = .ok (.invokevirtual 131, 3) := by decide +kernel
theorem dX9_works_227 : decode cX9_works 227 = .ok (.iinc 3 1, 3) := by decide +kernel
theorem dX9_works_230 : decode cX9_works 230 = .ok (.goto (-95), 3) := by decide +kernel
theorem dX9_works_233 : decode cX9_works 233 = .ok (.return_, 1) := by decide +kernel
set_option maxRecDepth 20000 in
theorem ggX9_knows_X9_works : GoodIn wsX9_knows wsX9_works := goodIn_r _ [6, 7, 1, 8, 9, 10, 11, 12, 13, 14, 15, 16, 17, 18, 19, 20, 21, 22, 5, 23, 24, 25, 26, 27, 28, 29, 30, 31, 32, 33, 34, 35, 36, 37, 38, 39, 40, 41, 42, 43, 44, 45, 46, 47, 48, 49, 50, 51, 52, 53, 54, 55, 56, 57, 58, 59, 60, 61, 62, 63, 64, 65, 66, 67, 68, 69, 70, 71, 72, 73, 74, 75, 76, 77, 78] (by decide +kernel) (by decide +kernel)
set_option maxRecDepth 20000 in
theorem gX9_knows_X9_works : GoodIn wsX9_knows (wsV RX9 137 RX9 yX9_works wsX9_works) := goodIn_app (goodIn_of _ (by decide +kernel)) ggX9_knows_X9_works
theorem dX9_knows_0 : decode cX9_knows 0 = .ok (.aload_n 0, 1) := by decide +kernel
theorem dX9_knows_1 : decode cX9_knows 1 = .ok (.getfield 42, 3) := by decide +kernel
theorem dX9_knows_4 : decode cX9_knows 4 = .ok (.iload_n 1, 1) := by decide +kernel
theorem dX9_knows_5 : decode cX9_knows 5 = .ok (.baload, 1) := by decide +kernel
theorem dX9_knows_6 : decode cX9_knows 6 = .ok (.ifCond .ne 8, 3) := by decide +kernel
theorem dX9_knows_9 : decode cX9_knows 9 = .ok (.aload_n 0, 1) := by decide +kernel
theorem dX9_knows_10 : decode cX9_knows 10 = .ok (.iload_n 1, 1) := by decide +kernel
theorem dX9_knows_11 : decode cX9_knows 11 = .ok (.invokevirtual 137, 3) := by decide +kernel
theorem dX9_knows_14 : decode cX9_knows 14 = .ok (.return_, 1) := by decide +kernel
set_option maxRecDepth 20000 in
theorem ggX9_needOf_X9_knows : GoodIn wsX9_needOf wsX9_knows := goodIn_r _ [6, 7, 8, 9, 10, 5, 11, 12, 13, 1, 14, 15, 16, 17, 18, 19, 20, 21, 22, 23, 24, 25, 26, 27, 28, 29, 30, 31, 32, 33, 34, 35, 36, 37, 38, 39, 40, 41, 42, 43, 44, 45, 46, 47, 48, 49, 50, 51, 52, 53, 54, 55, 56, 57, 58, 59, 60, 61, 62, 63, 64, 65, 66, 67, 68, 69, 70, 71, 72, 73, 74, 75, 76, 77, 78, 79, 80, 81, 82] (by decide +kernel) (by decide +kernel)
set_option maxRecDepth 20000 in
theorem gX9_needOf_X9_knows : GoodIn wsX9_needOf (wsV RX9 140 RX9 yX9_knows wsX9_knows) := goodIn_app (goodIn_of _ (by decide +kernel)) ggX9_needOf_X9_knows
theorem dX9_needOf_0 : decode cX9_needOf 0 = .ok (.aload_n 0, 1) := by decide +kernel
theorem dX9_needOf_1 : decode cX9_needOf 1 = .ok (.iload_n 1, 1) := by decide +kernel
theorem dX9_needOf_2 : decode cX9_needOf 2 = .ok (.invokevirtual 140, 3) := by decide +kernel
theorem dX9_needOf_5 : decode cX9_needOf 5 = .ok (.aload_n 0, 1) := by decide +kernel
theorem dX9_needOf_6 : decode cX9_needOf 6 = .ok (.getfield 33, 3) := by decide +kernel
theorem dX9_needOf_9 : decode cX9_needOf 9 = .ok (.bipush 64, 2) := by decide +kernel
theorem dX9_needOf_11 : decode cX9_needOf 11 = .ok (.iload_n 1, 1) := by decide +kernel
theorem dX9_needOf_12 : decode cX9_needOf 12 = .ok (.imul, 1) := by decide +kernel
theorem dX9_needOf_13 : decode cX9_needOf 13 = .ok (.bipush 32, 2) := by decide +kernel
theorem dX9_needOf_15 : decode cX9_needOf 15 = .ok (.iload_n 2, 1) := by decide +kernel
theorem dX9_needOf_16 : decode cX9_needOf 16 = .ok (.imul, 1) := by decide +kernel
theorem dX9_needOf_17 : decode cX9_needOf 17 = .ok (.iadd, 1) := by decide +kernel
theorem dX9_needOf_18 : decode cX9_needOf 18 = .ok (.iload_n 3, 1) := by decide +kernel
theorem dX9_needOf_19 : decode cX9_needOf 19 = .ok (.iadd, 1) := by decide +kernel
theorem dX9_needOf_20 : decode cX9_needOf 20 = .ok (.iaload, 1) := by decide +kernel
theorem dX9_needOf_21 : decode cX9_needOf 21 = .ok (.ireturn, 1) := by decide +kernel
set_option maxRecDepth 20000 in
theorem ggX9_isPlace_X9_lies : GoodIn wsX9_isPlace wsX9_lies := goodIn_r _ [4] (by decide +kernel) (by decide +kernel)
set_option maxRecDepth 20000 in
theorem gX9_isPlace_X9_lies : GoodIn wsX9_isPlace (va_wsS RX9 86 yX9_lies wsX9_lies) := goodIn_app (goodIn_of _ (by decide +kernel)) ggX9_isPlace_X9_lies
theorem dX9_isPlace_0 : decode cX9_isPlace 0 = .ok (.iload_n 0, 1) := by decide +kernel
theorem dX9_isPlace_1 : decode cX9_isPlace 1 = .ok (.iconst 0, 1) := by decide +kernel
theorem dX9_isPlace_2 : decode cX9_isPlace 2 = .ok (.iconst 1, 1) := by decide +kernel
theorem dX9_isPlace_3 : decode cX9_isPlace 3 = .ok (.invokestatic 86, 3) := by decide +kernel
theorem dX9_isPlace_6 : decode cX9_isPlace 6 = .ok (.ifCond .eq 17, 3) := by decide +kernel
theorem dX9_isPlace_9 : decode cX9_isPlace 9 = .ok (.iload_n 1, 1) := by decide +kernel
theorem dX9_isPlace_10 : decode cX9_isPlace 10 = .ok (.iconst 0, 1) := by decide +kernel
theorem dX9_isPlace_11 : decode cX9_isPlace 11 = .ok (.bipush 31, 2) := by decide +kernel
theorem dX9_isPlace_13 : decode cX9_isPlace 13 = .ok (.invokestatic 86, 3) := by decide +kernel
theorem dX9_isPlace_16 : decode cX9_isPlace 16 = .ok (.ifCond .eq 7, 3) := by decide +kernel
theorem dX9_isPlace_19 : decode cX9_isPlace 19 = .ok (.iconst 1, 1) := by decide +kernel
theorem dX9_isPlace_20 : decode cX9_isPlace 20 = .ok (.goto 4, 3) := by decide +kernel
theorem dX9_isPlace_23 : decode cX9_isPlace 23 = .ok (.iconst 0, 1) := by decide +kernel
theorem dX9_isPlace_24 : decode cX9_isPlace 24 = .ok (.ireturn, 1) := by decide +kernel
set_option maxRecDepth 20000 in
theorem ggX9_needed_X9_isProgram : GoodIn wsX9_needed wsX9_isProgram := goodIn_r _ [4, 5, 6, 3, 7] (by decide +kernel) (by decide +kernel)
set_option maxRecDepth 20000 in
theorem gX9_needed_X9_isProgram : GoodIn wsX9_needed (va_wsS RX9 90 yX9_isProgram wsX9_isProgram) := goodIn_app (goodIn_of _ (by decide +kernel)) ggX9_needed_X9_isProgram
set_option maxRecDepth 20000 in
theorem ggX9_needed_X9_isPlace : GoodIn wsX9_needed wsX9_isPlace := goodIn_r _ [10, 5, 6, 3, 7] (by decide +kernel) (by decide +kernel)
set_option maxRecDepth 20000 in
theorem gX9_needed_X9_isPlace : GoodIn wsX9_needed (va_wsS RX9 143 yX9_isPlace wsX9_isPlace) := goodIn_app (goodIn_of _ (by decide +kernel)) ggX9_needed_X9_isPlace
set_option maxRecDepth 20000 in
theorem ggX9_needed_X9_needOf : GoodIn wsX9_needed wsX9_needOf := goodIn_r _ [14, 15, 16, 17, 18, 3, 19, 20, 21, 22, 23, 24, 25, 26, 27, 28, 29, 30, 31, 32, 33, 34, 35, 36, 37, 38, 39, 40, 41, 42, 43, 44, 45, 46, 47, 48, 49, 50, 51, 52, 53, 54, 55, 56, 57, 58, 59, 60, 61, 62, 63, 64, 65, 66, 67, 68, 69, 70, 71, 72, 73, 74, 75, 76, 77, 78, 79, 80, 81, 82, 83, 84, 85, 86, 87, 88, 89, 90, 91, 92, 93, 94, 95] (by decide +kernel) (by decide +kernel)
set_option maxRecDepth 20000 in
theorem gX9_needed_X9_needOf : GoodIn wsX9_needed (wsV RX9 147 RX9 yX9_needOf wsX9_needOf) := goodIn_app (goodIn_of _ (by decide +kernel)) ggX9_needed_X9_needOf
theorem dX9_needed_0 : decode cX9_needed 0 = .ok (.iload_n 1, 1) := by decide +kernel
theorem dX9_needed_1 : decode cX9_needed 1 = .ok (.invokestatic 90, 3) := by decide +kernel
theorem dX9_needed_4 : decode cX9_needed 4 = .ok (.ifCond .eq 21, 3) := by decide +kernel
theorem dX9_needed_7 : decode cX9_needed 7 = .ok (.iload_n 2, 1) := by decide +kernel
theorem dX9_needed_8 : decode cX9_needed 8 = .ok (.iload_n 3, 1) := by decide +kernel
theorem dX9_needed_9 : decode cX9_needed 9 = .ok (.invokestatic 143, 3) := by decide +kernel
theorem dX9_needed_12 : decode cX9_needed 12 = .ok (.ifCond .eq 13, 3) := by decide +kernel
theorem dX9_needed_15 : decode cX9_needed 15 = .ok (.aload_n 0, 1) := by decide +kernel
theorem dX9_needed_16 : decode cX9_needed 16 = .ok (.iload_n 1, 1) := by decide +kernel
theorem dX9_needed_17 : decode cX9_needed 17 = .ok (.iload_n 2, 1) := by decide +kernel
theorem dX9_needed_18 : decode cX9_needed 18 = .ok (.iload_n 3, 1) := by decide +kernel
theorem dX9_needed_19 : decode cX9_needed 19 = .ok (.invokevirtual 147, 3) := by decide +kernel
theorem dX9_needed_22 : decode cX9_needed 22 = .ok (.goto 4, 3) := by decide +kernel
theorem dX9_needed_25 : decode cX9_needed 25 = .ok (.iconst 0, 1) := by decide +kernel
theorem dX9_needed_26 : decode cX9_needed 26 = .ok (.ireturn, 1) := by decide +kernel
theorem dX9_has_0 : decode cX9_has 0 = .ok (.iload_n 1, 1) := by decide +kernel
theorem dX9_has_1 : decode cX9_has 1 = .ok (.ifCond .lt 16, 3) := by decide +kernel
theorem dX9_has_4 : decode cX9_has 4 = .ok (.iload_n 0, 1) := by decide +kernel
theorem dX9_has_5 : decode cX9_has 5 = .ok (.iload_n 1, 1) := by decide +kernel
theorem dX9_has_6 : decode cX9_has 6 = .ok (.ishr, 1) := by decide +kernel
theorem dX9_has_7 : decode cX9_has 7 = .ok (.iconst 1, 1) := by decide +kernel
theorem dX9_has_8 : decode cX9_has 8 = .ok (.iand, 1) := by decide +kernel
theorem dX9_has_9 : decode cX9_has 9 = .ok (.iconst 1, 1) := by decide +kernel
theorem dX9_has_10 : decode cX9_has 10 = .ok (.if_icmp .ne 7, 3) := by decide +kernel
theorem dX9_has_13 : decode cX9_has 13 = .ok (.iconst 1, 1) := by decide +kernel
theorem dX9_has_14 : decode cX9_has 14 = .ok (.goto 4, 3) := by decide +kernel
theorem dX9_has_17 : decode cX9_has 17 = .ok (.iconst 0, 1) := by decide +kernel
theorem dX9_has_18 : decode cX9_has 18 = .ok (.ireturn, 1) := by decide +kernel
set_option maxRecDepth 20000 in
theorem ggX9_spansTo_X9_needOf : GoodIn wsX9_spansTo wsX9_needOf := goodIn_r _ [8, 9, 10, 11, 12, 7, 13, 14, 15, 16, 17, 18, 19, 20, 21, 22, 23, 24, 25, 26, 27, 28, 29, 30, 31, 32, 33, 34, 35, 36, 37, 38, 39, 40, 41, 42, 43, 44, 45, 46, 47, 48, 49, 50, 51, 52, 53, 54, 55, 56, 60, 61, 62, 63, 64, 65, 66, 67, 68, 69, 70, 71, 72, 73, 74, 75, 76, 77, 78, 79, 80, 81, 82, 83, 84, 85, 86, 87, 88, 89, 90, 91, 92] (by decide +kernel) (by decide +kernel)
set_option maxRecDepth 20000 in
theorem gX9_spansTo_X9_needOf : GoodIn wsX9_spansTo (wsV RX9 147 RX9 yX9_needOf wsX9_needOf) := goodIn_app (goodIn_of _ (by decide +kernel)) ggX9_spansTo_X9_needOf
set_option maxRecDepth 20000 in
theorem ggX9_spansTo_X9_has : GoodIn wsX9_spansTo wsX9_has := goodIn_r _ [59] (by decide +kernel) (by decide +kernel)
set_option maxRecDepth 20000 in
theorem gX9_spansTo_X9_has : GoodIn wsX9_spansTo (va_wsS RX9 151 yX9_has wsX9_has) := goodIn_app (goodIn_of _ (by decide +kernel)) ggX9_spansTo_X9_has
theorem dX9_spansTo_0 : decode cX9_spansTo 0 = .ok (.iconst 0, 1) := by decide +kernel
theorem dX9_spansTo_1 : decode cX9_spansTo 1 = .ok (.istore 4, 2) := by decide +kernel
theorem dX9_spansTo_3 : decode cX9_spansTo 3 = .ok (.iconst 0, 1) := by decide +kernel
theorem dX9_spansTo_4 : decode cX9_spansTo 4 = .ok (.istore 5, 2) := by decide +kernel
theorem dX9_spansTo_6 : decode cX9_spansTo 6 = .ok (.iload 5, 2) := by decide +kernel
theorem dX9_spansTo_8 : decode cX9_spansTo 8 = .ok (.bipush 32, 2) := by decide +kernel
theorem dX9_spansTo_10 : decode cX9_spansTo 10 = .ok (.if_icmp .ge 123, 3) := by decide +kernel
theorem dX9_spansTo_13 : decode cX9_spansTo 13 = .ok (.aload_n 0, 1) := by decide +kernel
theorem dX9_spansTo_14 : decode cX9_spansTo 14 = .ok (.iload_n 1, 1) := by decide +kernel
theorem dX9_spansTo_15 : decode cX9_spansTo 15 = .ok (.iload_n 2, 1) := by decide +kernel
theorem dX9_spansTo_16 : decode cX9_spansTo 16 = .ok (.iload 5, 2) := by decide +kernel
theorem dX9_spansTo_18 : decode cX9_spansTo 18 = .ok (.invokevirtual 147, 3) := by decide +kernel
theorem dX9_spansTo_21 : decode cX9_spansTo 21 = .ok (.istore 6, 2) := by decide +kernel
theorem dX9_spansTo_23 : decode cX9_spansTo 23 = .ok (.iconst 0, 1) := by decide +kernel
theorem dX9_spansTo_24 : decode cX9_spansTo 24 = .ok (.istore 7, 2) := by decide +kernel
theorem dX9_spansTo_26 : decode cX9_spansTo 26 = .ok (.iload 7, 2) := by decide +kernel
theorem dX9_spansTo_28 : decode cX9_spansTo 28 = .ok (.bipush 32, 2) := by decide +kernel
theorem dX9_spansTo_30 : decode cX9_spansTo 30 = .ok (.if_icmp .ge 97, 3) := by decide +kernel
theorem dX9_spansTo_33 : decode cX9_spansTo 33 = .ok (.iload 6, 2) := by decide +kernel
theorem dX9_spansTo_35 : decode cX9_spansTo 35 = .ok (.iload 7, 2) := by decide +kernel
theorem dX9_spansTo_37 : decode cX9_spansTo 37 = .ok (.invokestatic 151, 3) := by decide +kernel
theorem dX9_spansTo_40 : decode cX9_spansTo 40 = .ok (.ifCond .eq 81, 3) := by decide +kernel
theorem dX9_spansTo_43 : decode cX9_spansTo 43 = .ok (.iload 6, 2) := by decide +kernel
theorem dX9_spansTo_45 : decode cX9_spansTo 45 = .ok (.iload 7, 2) := by decide +kernel
theorem dX9_spansTo_47 : decode cX9_spansTo 47 = .ok (.iconst 1, 1) := by decide +kernel
theorem dX9_spansTo_48 : decode cX9_spansTo 48 = .ok (.isub, 1) := by decide +kernel
theorem dX9_spansTo_49 : decode cX9_spansTo 49 = .ok (.invokestatic 151, 3) := by decide +kernel
theorem dX9_spansTo_52 : decode cX9_spansTo 52 = .ok (.ifCond .eq 6, 3) := by decide +kernel
theorem dX9_spansTo_55 : decode cX9_spansTo 55 = .ok (.goto 66, 3) := by decide +kernel
theorem dX9_spansTo_58 : decode cX9_spansTo 58 = .ok (.iload 4, 2) := by decide +kernel
theorem dX9_spansTo_60 : decode cX9_spansTo 60 = .ok (.iload_n 3, 1) := by decide +kernel
theorem dX9_spansTo_61 : decode cX9_spansTo 61 = .ok (.if_icmp .ne 57, 3) := by decide +kernel
theorem dX9_spansTo_64 : decode cX9_spansTo 64 = .ok (.aload_n 0, 1) := by decide +kernel
theorem dX9_spansTo_65 : decode cX9_spansTo 65 = .ok (.iload 5, 2) := by decide +kernel
theorem dX9_spansTo_67 : decode cX9_spansTo 67 = .ok (.putfield 154, 3) := by decide +kernel
theorem dX9_spansTo_70 : decode cX9_spansTo 70 = .ok (.aload_n 0, 1) := by decide +kernel
theorem dX9_spansTo_71 : decode cX9_spansTo 71 = .ok (.iload 7, 2) := by decide +kernel
theorem dX9_spansTo_73 : decode cX9_spansTo 73 = .ok (.putfield 157, 3) := by decide +kernel
theorem dX9_spansTo_76 : decode cX9_spansTo 76 = .ok (.aload_n 0, 1) := by decide +kernel
theorem dX9_spansTo_77 : decode cX9_spansTo 77 = .ok (.iload 7, 2) := by decide +kernel
theorem dX9_spansTo_79 : decode cX9_spansTo 79 = .ok (.putfield 160, 3) := by decide +kernel
theorem dX9_spansTo_82 : decode cX9_spansTo 82 = .ok (.aload_n 0, 1) := by decide +kernel
theorem dX9_spansTo_83 : decode cX9_spansTo 83 = .ok (.getfield 160, 3) := by decide +kernel
theorem dX9_spansTo_86 : decode cX9_spansTo 86 = .ok (.bipush 31, 2) := by decide +kernel
theorem dX9_spansTo_88 : decode cX9_spansTo 88 = .ok (.if_icmp .ge 30, 3) := by decide +kernel
theorem dX9_spansTo_91 : decode cX9_spansTo 91 = .ok (.iload 6, 2) := by decide +kernel
theorem dX9_spansTo_93 : decode cX9_spansTo 93 = .ok (.aload_n 0, 1) := by decide +kernel
theorem dX9_spansTo_94 : decode cX9_spansTo 94 = .ok (.getfield 160, 3) := by decide +kernel
theorem dX9_spansTo_97 : decode cX9_spansTo 97 = .ok (.iconst 1, 1) := by decide +kernel
theorem dX9_spansTo_98 : decode cX9_spansTo 98 = .ok (.iadd, 1) := by decide +kernel
theorem dX9_spansTo_99 : decode cX9_spansTo 99 = .ok (.invokestatic 151, 3) := by decide +kernel
theorem dX9_spansTo_102 : decode cX9_spansTo 102 = .ok (.ifCond .eq 16, 3) := by decide +kernel
theorem dX9_spansTo_105 : decode cX9_spansTo 105 = .ok (.aload_n 0, 1) := by decide +kernel
theorem dX9_spansTo_106 : decode cX9_spansTo 106 = .ok (.dup, 1) := by decide +kernel
theorem dX9_spansTo_107 : decode cX9_spansTo 107 = .ok (.getfield 160, 3) := by decide +kernel
theorem dX9_spansTo_110 : decode cX9_spansTo 110 = .ok (.iconst 1, 1) := by decide +kernel
theorem dX9_spansTo_111 : decode cX9_spansTo 111 = .ok (.iadd, 1) := by decide +kernel
theorem dX9_spansTo_112 : decode cX9_spansTo 112 = .ok (.putfield 160, 3) := by decide +kernel
theorem dX9_spansTo_115 : decode cX9_spansTo 115 = .ok (.goto (-33), 3) := by decide +kernel
theorem dX9_spansTo_118 : decode cX9_spansTo 118 = .ok (.iinc 4 1, 3) := by decide +kernel
theorem dX9_spansTo_121 : decode cX9_spansTo 121 = .ok (.iinc 7 1, 3) := by decide +kernel
theorem dX9_spansTo_124 : decode cX9_spansTo 124 = .ok (.goto (-98), 3) := by decide +kernel
theorem dX9_spansTo_127 : decode cX9_spansTo 127 = .ok (.iinc 5 1, 3) := by decide +kernel
theorem dX9_spansTo_130 : decode cX9_spansTo 130 = .ok (.goto (-124), 3) := by decide +kernel
theorem dX9_spansTo_133 : decode cX9_spansTo 133 = .ok (.iload 4, 2) := by decide +kernel
theorem dX9_spansTo_135 : decode cX9_spansTo 135 = .ok (.ireturn, 1) := by decide +kernel
set_option maxRecDepth 20000 in
theorem ggX9_spans_X9_isProgram : GoodIn wsX9_spans wsX9_isProgram := goodIn_r _ [4, 5, 6, 3, 7] (by decide +kernel) (by decide +kernel)
set_option maxRecDepth 20000 in
theorem gX9_spans_X9_isProgram : GoodIn wsX9_spans (va_wsS RX9 90 yX9_isProgram wsX9_isProgram) := goodIn_app (goodIn_of _ (by decide +kernel)) ggX9_spans_X9_isProgram
set_option maxRecDepth 20000 in
theorem ggX9_spans_X9_lies : GoodIn wsX9_spans wsX9_lies := goodIn_r _ [7] (by decide +kernel) (by decide +kernel)
set_option maxRecDepth 20000 in
theorem gX9_spans_X9_lies : GoodIn wsX9_spans (va_wsS RX9 86 yX9_lies wsX9_lies) := goodIn_app (goodIn_of _ (by decide +kernel)) ggX9_spans_X9_lies
set_option maxRecDepth 20000 in
theorem ggX9_spans_X9_spansTo : GoodIn wsX9_spans wsX9_spansTo := goodIn_r _ [11, 12, 13, 14, 15, 16, 17, 3, 18, 19, 20, 21, 22, 23, 24, 25, 26, 27, 28, 29, 30, 31, 32, 33, 34, 35, 36, 37, 38, 39, 40, 41, 42, 43, 44, 45, 46, 47, 48, 49, 50, 51, 52, 53, 54, 55, 56, 57, 58, 59, 60, 61, 62, 63, 64, 65, 66, 67, 68, 69, 70, 71, 72, 73, 74, 75, 76, 77, 78, 79, 80, 81, 82, 83, 84, 85, 86, 87, 88, 89, 90, 91, 92, 93, 94, 95, 96, 97, 98, 99, 100, 101, 102] (by decide +kernel) (by decide +kernel)
set_option maxRecDepth 20000 in
theorem gX9_spans_X9_spansTo : GoodIn wsX9_spans (wsV RX9 163 RX9 yX9_spansTo wsX9_spansTo) := goodIn_app (goodIn_of _ (by decide +kernel)) ggX9_spans_X9_spansTo
theorem dX9_spans_0 : decode cX9_spans 0 = .ok (.iload_n 1, 1) := by decide +kernel
theorem dX9_spans_1 : decode cX9_spans 1 = .ok (.invokestatic 90, 3) := by decide +kernel
theorem dX9_spans_4 : decode cX9_spans 4 = .ok (.ifCond .eq 22, 3) := by decide +kernel
theorem dX9_spans_7 : decode cX9_spans 7 = .ok (.iload_n 2, 1) := by decide +kernel
theorem dX9_spans_8 : decode cX9_spans 8 = .ok (.iconst 0, 1) := by decide +kernel
theorem dX9_spans_9 : decode cX9_spans 9 = .ok (.iconst 1, 1) := by decide +kernel
theorem dX9_spans_10 : decode cX9_spans 10 = .ok (.invokestatic 86, 3) := by decide +kernel
theorem dX9_spans_13 : decode cX9_spans 13 = .ok (.ifCond .eq 13, 3) := by decide +kernel
theorem dX9_spans_16 : decode cX9_spans 16 = .ok (.aload_n 0, 1) := by decide +kernel
theorem dX9_spans_17 : decode cX9_spans 17 = .ok (.iload_n 1, 1) := by decide +kernel
theorem dX9_spans_18 : decode cX9_spans 18 = .ok (.iload_n 2, 1) := by decide +kernel
theorem dX9_spans_19 : decode cX9_spans 19 = .ok (.iconst (-1), 1) := by decide +kernel
theorem dX9_spans_20 : decode cX9_spans 20 = .ok (.invokevirtual 163, 3) := by decide +kernel
theorem dX9_spans_23 : decode cX9_spans 23 = .ok (.goto 4, 3) := by decide +kernel
theorem dX9_spans_26 : decode cX9_spans 26 = .ok (.iconst (-1), 1) := by decide +kernel
theorem dX9_spans_27 : decode cX9_spans 27 = .ok (.ireturn, 1) := by decide +kernel
set_option maxRecDepth 20000 in
theorem ggX9_span_X9_isProgram : GoodIn wsX9_span wsX9_isProgram := goodIn_r _ [7, 8, 9, 6, 10] (by decide +kernel) (by decide +kernel)
set_option maxRecDepth 20000 in
theorem gX9_span_X9_isProgram : GoodIn wsX9_span (va_wsS RX9 90 yX9_isProgram wsX9_isProgram) := goodIn_app (goodIn_of _ (by decide +kernel)) ggX9_span_X9_isProgram
set_option maxRecDepth 20000 in
theorem ggX9_span_X9_lies : GoodIn wsX9_span wsX9_lies := goodIn_r _ [10] (by decide +kernel) (by decide +kernel)
set_option maxRecDepth 20000 in
theorem gX9_span_X9_lies : GoodIn wsX9_span (va_wsS RX9 86 yX9_lies wsX9_lies) := goodIn_app (goodIn_of _ (by decide +kernel)) ggX9_span_X9_lies
set_option maxRecDepth 20000 in
theorem ggX9_span_X9_spansTo : GoodIn wsX9_span wsX9_spansTo := goodIn_r _ [14, 1, 2, 3, 15, 16, 17, 6, 18, 19, 20, 21, 22, 23, 24, 25, 26, 27, 28, 29, 30, 31, 32, 33, 34, 35, 36, 37, 38, 39, 40, 41, 42, 43, 44, 45, 46, 47, 48, 49, 50, 51, 52, 53, 54, 55, 56, 57, 58, 59, 60, 61, 62, 63, 64, 65, 66, 67, 68, 69, 70, 71, 72, 73, 74, 75, 76, 77, 78, 79, 80, 81, 82, 83, 84, 85, 86, 87, 88, 89, 90, 91, 92, 93, 94, 95, 96, 97, 98, 99, 100, 101, 102] (by decide +kernel) (by decide +kernel)
set_option maxRecDepth 20000 in
theorem gX9_span_X9_spansTo : GoodIn wsX9_span (wsV RX9 163 RX9 yX9_spansTo wsX9_spansTo) := goodIn_app (goodIn_of _ (by decide +kernel)) ggX9_span_X9_spansTo
theorem dX9_span_0 : decode cX9_span 0 = .ok (.iload_n 1, 1) := by decide +kernel
theorem dX9_span_1 : decode cX9_span 1 = .ok (.invokestatic 90, 3) := by decide +kernel
theorem dX9_span_4 : decode cX9_span 4 = .ok (.ifCond .eq 27, 3) := by decide +kernel
theorem dX9_span_7 : decode cX9_span 7 = .ok (.iload_n 2, 1) := by decide +kernel
theorem dX9_span_8 : decode cX9_span 8 = .ok (.iconst 0, 1) := by decide +kernel
theorem dX9_span_9 : decode cX9_span 9 = .ok (.iconst 1, 1) := by decide +kernel
theorem dX9_span_10 : decode cX9_span 10 = .ok (.invokestatic 86, 3) := by decide +kernel
theorem dX9_span_13 : decode cX9_span 13 = .ok (.ifCond .eq 18, 3) := by decide +kernel
theorem dX9_span_16 : decode cX9_span 16 = .ok (.iload_n 3, 1) := by decide +kernel
theorem dX9_span_17 : decode cX9_span 17 = .ok (.ifCond .lt 14, 3) := by decide +kernel
theorem dX9_span_20 : decode cX9_span 20 = .ok (.aload_n 0, 1) := by decide +kernel
theorem dX9_span_21 : decode cX9_span 21 = .ok (.iload_n 1, 1) := by decide +kernel
theorem dX9_span_22 : decode cX9_span 22 = .ok (.iload_n 2, 1) := by decide +kernel
theorem dX9_span_23 : decode cX9_span 23 = .ok (.iload_n 3, 1) := by decide +kernel
theorem dX9_span_24 : decode cX9_span 24 = .ok (.invokevirtual 163, 3) := by decide +kernel
theorem dX9_span_27 : decode cX9_span 27 = .ok (.iload_n 3, 1) := by decide +kernel
theorem dX9_span_28 : decode cX9_span 28 = .ok (.if_icmp .gt 5, 3) := by decide +kernel
theorem dX9_span_31 : decode cX9_span 31 = .ok (.iconst (-1), 1) := by decide +kernel
theorem dX9_span_32 : decode cX9_span 32 = .ok (.ireturn, 1) := by decide +kernel
theorem dX9_span_33 : decode cX9_span 33 = .ok (.iload 4, 2) := by decide +kernel
theorem dX9_span_35 : decode cX9_span 35 = .ok (.ifCond .ne 10, 3) := by decide +kernel
theorem dX9_span_38 : decode cX9_span 38 = .ok (.aload_n 0, 1) := by decide +kernel
theorem dX9_span_39 : decode cX9_span 39 = .ok (.getfield 154, 3) := by decide +kernel
theorem dX9_span_42 : decode cX9_span 42 = .ok (.goto 30, 3) := by decide +kernel
theorem dX9_span_45 : decode cX9_span 45 = .ok (.iload 4, 2) := by decide +kernel
theorem dX9_span_47 : decode cX9_span 47 = .ok (.iconst 1, 1) := by decide +kernel
theorem dX9_span_48 : decode cX9_span 48 = .ok (.if_icmp .ne 10, 3) := by decide +kernel
theorem dX9_span_51 : decode cX9_span 51 = .ok (.aload_n 0, 1) := by decide +kernel
theorem dX9_span_52 : decode cX9_span 52 = .ok (.getfield 157, 3) := by decide +kernel
theorem dX9_span_55 : decode cX9_span 55 = .ok (.goto 17, 3) := by decide +kernel
theorem dX9_span_58 : decode cX9_span 58 = .ok (.iload 4, 2) := by decide +kernel
theorem dX9_span_60 : decode cX9_span 60 = .ok (.iconst 2, 1) := by decide +kernel
theorem dX9_span_61 : decode cX9_span 61 = .ok (.if_icmp .ne 10, 3) := by decide +kernel
theorem dX9_span_64 : decode cX9_span 64 = .ok (.aload_n 0, 1) := by decide +kernel
theorem dX9_span_65 : decode cX9_span 65 = .ok (.getfield 160, 3) := by decide +kernel
theorem dX9_span_68 : decode cX9_span 68 = .ok (.goto 4, 3) := by decide +kernel
theorem dX9_span_71 : decode cX9_span 71 = .ok (.iconst (-1), 1) := by decide +kernel
theorem dX9_span_72 : decode cX9_span 72 = .ok (.ireturn, 1) := by decide +kernel
set_option maxRecDepth 20000 in
theorem ggX9_callOf_X9_isProgram : GoodIn wsX9_callOf wsX9_isProgram := goodIn_r _ [8, 9, 10, 7, 11] (by decide +kernel) (by decide +kernel)
set_option maxRecDepth 20000 in
theorem gX9_callOf_X9_isProgram : GoodIn wsX9_callOf (va_wsS RX9 90 yX9_isProgram wsX9_isProgram) := goodIn_app (goodIn_of _ (by decide +kernel)) ggX9_callOf_X9_isProgram
set_option maxRecDepth 20000 in
theorem ggX9_callOf_X9_isPlace : GoodIn wsX9_callOf wsX9_isPlace := goodIn_r _ [14, 9, 10, 7, 11] (by decide +kernel) (by decide +kernel)
set_option maxRecDepth 20000 in
theorem gX9_callOf_X9_isPlace : GoodIn wsX9_callOf (va_wsS RX9 143 yX9_isPlace wsX9_isPlace) := goodIn_app (goodIn_of _ (by decide +kernel)) ggX9_callOf_X9_isPlace
set_option maxRecDepth 20000 in
theorem ggX9_callOf_X9_lies : GoodIn wsX9_callOf wsX9_lies := goodIn_r _ [11] (by decide +kernel) (by decide +kernel)
set_option maxRecDepth 20000 in
theorem gX9_callOf_X9_lies : GoodIn wsX9_callOf (va_wsS RX9 86 yX9_lies wsX9_lies) := goodIn_app (goodIn_of _ (by decide +kernel)) ggX9_callOf_X9_lies
set_option maxRecDepth 20000 in
theorem ggX9_callOf_X9_works : GoodIn wsX9_callOf wsX9_works := goodIn_r _ [18, 19, 20, 21, 22, 23, 3, 24, 25, 26, 27, 28, 29, 1, 4, 30, 31, 32, 7, 33, 34, 35, 36, 37, 38, 39, 40, 41, 42, 43, 44, 45, 2, 46, 47, 48, 49, 50, 51, 52, 53, 54, 55, 56, 57, 58, 59, 60, 61, 62, 63, 64, 65, 66, 67, 68, 69, 70, 71, 72, 73, 74, 75, 76, 77, 78, 79, 80, 81, 82, 83, 84, 85, 86, 87] (by decide +kernel) (by decide +kernel)
set_option maxRecDepth 20000 in
theorem gX9_callOf_X9_works : GoodIn wsX9_callOf (wsV RX9 137 RX9 yX9_works wsX9_works) := goodIn_app (goodIn_of _ (by decide +kernel)) ggX9_callOf_X9_works
set_option maxRecDepth 20000 in
theorem ggX9_callOf_X9_stateOf : GoodIn wsX9_callOf wsX9_stateOf := goodIn_r _ [36] (by decide +kernel) (by decide +kernel)
set_option maxRecDepth 20000 in
theorem gX9_callOf_X9_stateOf : GoodIn wsX9_callOf (va_wsS RX9 109 yX9_stateOf wsX9_stateOf) := goodIn_app (goodIn_of _ (by decide +kernel)) ggX9_callOf_X9_stateOf
theorem dX9_callOf_0 : decode cX9_callOf 0 = .ok (.iload_n 1, 1) := by decide +kernel
theorem dX9_callOf_1 : decode cX9_callOf 1 = .ok (.invokestatic 90, 3) := by decide +kernel
theorem dX9_callOf_4 : decode cX9_callOf 4 = .ok (.ifCond .eq 22, 3) := by decide +kernel
theorem dX9_callOf_7 : decode cX9_callOf 7 = .ok (.iload_n 2, 1) := by decide +kernel
theorem dX9_callOf_8 : decode cX9_callOf 8 = .ok (.iload_n 3, 1) := by decide +kernel
theorem dX9_callOf_9 : decode cX9_callOf 9 = .ok (.invokestatic 143, 3) := by decide +kernel
theorem dX9_callOf_12 : decode cX9_callOf 12 = .ok (.ifCond .eq 14, 3) := by decide +kernel
theorem dX9_callOf_15 : decode cX9_callOf 15 = .ok (.iload 4, 2) := by decide +kernel
theorem dX9_callOf_17 : decode cX9_callOf 17 = .ok (.iconst 0, 1) := by decide +kernel
theorem dX9_callOf_18 : decode cX9_callOf 18 = .ok (.bipush 31, 2) := by decide +kernel
theorem dX9_callOf_20 : decode cX9_callOf 20 = .ok (.invokestatic 86, 3) := by decide +kernel
theorem dX9_callOf_23 : decode cX9_callOf 23 = .ok (.ifCond .ne 5, 3) := by decide +kernel
theorem dX9_callOf_26 : decode cX9_callOf 26 = .ok (.iconst (-1), 1) := by decide +kernel
theorem dX9_callOf_27 : decode cX9_callOf 27 = .ok (.ireturn, 1) := by decide +kernel
theorem dX9_callOf_28 : decode cX9_callOf 28 = .ok (.aload_n 0, 1) := by decide +kernel
theorem dX9_callOf_29 : decode cX9_callOf 29 = .ok (.iload_n 1, 1) := by decide +kernel
theorem dX9_callOf_30 : decode cX9_callOf 30 = .ok (.invokevirtual 137, 3) := by decide +kernel
theorem dX9_callOf_33 : decode cX9_callOf 33 = .ok (.iconst (-1), 1) := by decide +kernel
theorem dX9_callOf_34 : decode cX9_callOf 34 = .ok (.istore 5, 2) := by decide +kernel
theorem dX9_callOf_36 : decode cX9_callOf 36 = .ok (.iconst 0, 1) := by decide +kernel
theorem dX9_callOf_37 : decode cX9_callOf 37 = .ok (.istore 6, 2) := by decide +kernel
theorem dX9_callOf_39 : decode cX9_callOf 39 = .ok (.iload 6, 2) := by decide +kernel
theorem dX9_callOf_41 : decode cX9_callOf 41 = .ok (.aload_n 0, 1) := by decide +kernel
theorem dX9_callOf_42 : decode cX9_callOf 42 = .ok (.getfield 17, 3) := by decide +kernel
theorem dX9_callOf_45 : decode cX9_callOf 45 = .ok (.iload_n 1, 1) := by decide +kernel
theorem dX9_callOf_46 : decode cX9_callOf 46 = .ok (.iaload, 1) := by decide +kernel
theorem dX9_callOf_47 : decode cX9_callOf 47 = .ok (.if_icmp .ge 112, 3) := by decide +kernel
theorem dX9_callOf_50 : decode cX9_callOf 50 = .ok (.iload 6, 2) := by decide +kernel
theorem dX9_callOf_52 : decode cX9_callOf 52 = .ok (.iload_n 2, 1) := by decide +kernel
theorem dX9_callOf_53 : decode cX9_callOf 53 = .ok (.iload_n 3, 1) := by decide +kernel
theorem dX9_callOf_54 : decode cX9_callOf 54 = .ok (.iload 4, 2) := by decide +kernel
theorem dX9_callOf_56 : decode cX9_callOf 56 = .ok (.invokestatic 109, 3) := by decide +kernel
theorem dX9_callOf_59 : decode cX9_callOf 59 = .ok (.istore 7, 2) := by decide +kernel
theorem dX9_callOf_61 : decode cX9_callOf 61 = .ok (.aload_n 0, 1) := by decide +kernel
theorem dX9_callOf_62 : decode cX9_callOf 62 = .ok (.getfield 21, 3) := by decide +kernel
theorem dX9_callOf_65 : decode cX9_callOf 65 = .ok (.bipush 24, 2) := by decide +kernel
theorem dX9_callOf_67 : decode cX9_callOf 67 = .ok (.iload_n 1, 1) := by decide +kernel
theorem dX9_callOf_68 : decode cX9_callOf 68 = .ok (.imul, 1) := by decide +kernel
theorem dX9_callOf_69 : decode cX9_callOf 69 = .ok (.iload 6, 2) := by decide +kernel
theorem dX9_callOf_71 : decode cX9_callOf 71 = .ok (.iadd, 1) := by decide +kernel
theorem dX9_callOf_72 : decode cX9_callOf 72 = .ok (.iaload, 1) := by decide +kernel
theorem dX9_callOf_73 : decode cX9_callOf 73 = .ok (.bipush 7, 2) := by decide +kernel
theorem dX9_callOf_75 : decode cX9_callOf 75 = .ok (.if_icmp .ne 78, 3) := by decide +kernel
theorem dX9_callOf_78 : decode cX9_callOf 78 = .ok (.aload_n 0, 1) := by decide +kernel
theorem dX9_callOf_79 : decode cX9_callOf 79 = .ok (.getfield 71, 3) := by decide +kernel
theorem dX9_callOf_82 : decode cX9_callOf 82 = .ok (.iload 7, 2) := by decide +kernel
theorem dX9_callOf_84 : decode cX9_callOf 84 = .ok (.iaload, 1) := by decide +kernel
theorem dX9_callOf_85 : decode cX9_callOf 85 = .ok (.iconst (-1), 1) := by decide +kernel
theorem dX9_callOf_86 : decode cX9_callOf 86 = .ok (.if_icmp .ne 6, 3) := by decide +kernel
theorem dX9_callOf_89 : decode cX9_callOf 89 = .ok (.goto 64, 3) := by decide +kernel
theorem dX9_callOf_92 : decode cX9_callOf 92 = .ok (.iload 5, 2) := by decide +kernel
theorem dX9_callOf_94 : decode cX9_callOf 94 = .ok (.iconst (-1), 1) := by decide +kernel
theorem dX9_callOf_95 : decode cX9_callOf 95 = .ok (.if_icmp .eq 54, 3) := by decide +kernel
theorem dX9_callOf_98 : decode cX9_callOf 98 = .ok (.aload_n 0, 1) := by decide +kernel
theorem dX9_callOf_99 : decode cX9_callOf 99 = .ok (.getfield 71, 3) := by decide +kernel
theorem dX9_callOf_102 : decode cX9_callOf 102 = .ok (.iload 7, 2) := by decide +kernel
theorem dX9_callOf_104 : decode cX9_callOf 104 = .ok (.iaload, 1) := by decide +kernel
theorem dX9_callOf_105 : decode cX9_callOf 105 = .ok (.aload_n 0, 1) := by decide +kernel
theorem dX9_callOf_106 : decode cX9_callOf 106 = .ok (.getfield 71, 3) := by decide +kernel
theorem dX9_callOf_109 : decode cX9_callOf 109 = .ok (.iload 5, 2) := by decide +kernel
theorem dX9_callOf_111 : decode cX9_callOf 111 = .ok (.iaload, 1) := by decide +kernel
theorem dX9_callOf_112 : decode cX9_callOf 112 = .ok (.if_icmp .lt 37, 3) := by decide +kernel
theorem dX9_callOf_115 : decode cX9_callOf 115 = .ok (.aload_n 0, 1) := by decide +kernel
theorem dX9_callOf_116 : decode cX9_callOf 116 = .ok (.getfield 71, 3) := by decide +kernel
theorem dX9_callOf_119 : decode cX9_callOf 119 = .ok (.iload 7, 2) := by decide +kernel
theorem dX9_callOf_121 : decode cX9_callOf 121 = .ok (.iaload, 1) := by decide +kernel
theorem dX9_callOf_122 : decode cX9_callOf 122 = .ok (.aload_n 0, 1) := by decide +kernel
theorem dX9_callOf_123 : decode cX9_callOf 123 = .ok (.getfield 71, 3) := by decide +kernel
theorem dX9_callOf_126 : decode cX9_callOf 126 = .ok (.iload 5, 2) := by decide +kernel
theorem dX9_callOf_128 : decode cX9_callOf 128 = .ok (.iaload, 1) := by decide +kernel
theorem dX9_callOf_129 : decode cX9_callOf 129 = .ok (.if_icmp .ne 24, 3) := by decide +kernel
theorem dX9_callOf_132 : decode cX9_callOf 132 = .ok (.aload_n 0, 1) := by decide +kernel
theorem dX9_callOf_133 : decode cX9_callOf 133 = .ok (.getfield 74, 3) := by decide +kernel
theorem dX9_callOf_136 : decode cX9_callOf 136 = .ok (.iload 7, 2) := by decide +kernel
theorem dX9_callOf_138 : decode cX9_callOf 138 = .ok (.iaload, 1) := by decide +kernel
theorem dX9_callOf_139 : decode cX9_callOf 139 = .ok (.aload_n 0, 1) := by decide +kernel
theorem dX9_callOf_140 : decode cX9_callOf 140 = .ok (.getfield 74, 3) := by decide +kernel
theorem dX9_callOf_143 : decode cX9_callOf 143 = .ok (.iload 5, 2) := by decide +kernel
theorem dX9_callOf_145 : decode cX9_callOf 145 = .ok (.iaload, 1) := by decide +kernel
theorem dX9_callOf_146 : decode cX9_callOf 146 = .ok (.if_icmp .ge 7, 3) := by decide +kernel
theorem dX9_callOf_149 : decode cX9_callOf 149 = .ok (.iload 7, 2) := by decide +kernel
theorem dX9_callOf_151 : decode cX9_callOf 151 = .ok (.istore 5, 2) := by decide +kernel
theorem dX9_callOf_153 : decode cX9_callOf 153 = .ok (.iinc 6 1, 3) := by decide +kernel
theorem dX9_callOf_156 : decode cX9_callOf 156 = .ok (.goto (-117), 3) := by decide +kernel
theorem dX9_callOf_159 : decode cX9_callOf 159 = .ok (.iload 5, 2) := by decide +kernel
theorem dX9_callOf_161 : decode cX9_callOf 161 = .ok (.ireturn, 1) := by decide +kernel
set_option maxRecDepth 20000 in
theorem ggX9_steps_X9_callOf : GoodIn wsX9_steps wsX9_callOf := goodIn_r _ [6, 7, 8, 1, 9, 10, 11, 5, 12, 13, 14, 15, 16, 17, 18, 19, 20, 21, 22, 23, 24, 25, 26, 27, 28, 29, 30, 31, 32, 33, 34, 35, 36, 37, 38, 39, 40, 41, 42, 43, 44, 45, 46, 47, 48, 49, 50, 51, 52, 53, 54, 55, 56, 57, 58, 59, 60, 61, 62, 63, 64, 65, 66, 67, 68, 69, 70, 71, 72, 73, 74, 75, 76, 77, 78, 79, 80, 81, 82, 83, 84, 85, 86, 87, 88, 89, 90, 91] (by decide +kernel) (by decide +kernel)
set_option maxRecDepth 20000 in
theorem gX9_steps_X9_callOf : GoodIn wsX9_steps (wsV RX9 166 RX9 yX9_callOf wsX9_callOf) := goodIn_app (goodIn_of _ (by decide +kernel)) ggX9_steps_X9_callOf
theorem dX9_steps_0 : decode cX9_steps 0 = .ok (.aload_n 0, 1) := by decide +kernel
theorem dX9_steps_1 : decode cX9_steps 1 = .ok (.iload_n 1, 1) := by decide +kernel
theorem dX9_steps_2 : decode cX9_steps 2 = .ok (.iload_n 2, 1) := by decide +kernel
theorem dX9_steps_3 : decode cX9_steps 3 = .ok (.iload_n 3, 1) := by decide +kernel
theorem dX9_steps_4 : decode cX9_steps 4 = .ok (.iload 4, 2) := by decide +kernel
theorem dX9_steps_6 : decode cX9_steps 6 = .ok (.invokevirtual 166, 3) := by decide +kernel
theorem dX9_steps_9 : decode cX9_steps 9 = .ok (.istore 5, 2) := by decide +kernel
theorem dX9_steps_11 : decode cX9_steps 11 = .ok (.iload 5, 2) := by decide +kernel
theorem dX9_steps_13 : decode cX9_steps 13 = .ok (.iconst (-1), 1) := by decide +kernel
theorem dX9_steps_14 : decode cX9_steps 14 = .ok (.if_icmp .ne 7, 3) := by decide +kernel
theorem dX9_steps_17 : decode cX9_steps 17 = .ok (.iconst (-1), 1) := by decide +kernel
theorem dX9_steps_18 : decode cX9_steps 18 = .ok (.goto 12, 3) := by decide +kernel
theorem dX9_steps_21 : decode cX9_steps 21 = .ok (.aload_n 0, 1) := by decide +kernel
theorem dX9_steps_22 : decode cX9_steps 22 = .ok (.getfield 71, 3) := by decide +kernel
theorem dX9_steps_25 : decode cX9_steps 25 = .ok (.iload 5, 2) := by decide +kernel
theorem dX9_steps_27 : decode cX9_steps 27 = .ok (.iaload, 1) := by decide +kernel
theorem dX9_steps_28 : decode cX9_steps 28 = .ok (.iconst 1, 1) := by decide +kernel
theorem dX9_steps_29 : decode cX9_steps 29 = .ok (.iadd, 1) := by decide +kernel
theorem dX9_steps_30 : decode cX9_steps 30 = .ok (.ireturn, 1) := by decide +kernel
set_option maxRecDepth 20000 in
theorem ggX9_way_X9_callOf : GoodIn wsX9_way wsX9_callOf := goodIn_r _ [7, 8, 9, 1, 10, 11, 12, 6, 13, 14, 15, 16, 17, 18, 19, 20, 21, 22, 23, 24, 25, 26, 27, 28, 29, 30, 31, 2, 32, 33, 34, 35, 36, 37, 38, 39, 40, 41, 42, 43, 44, 45, 46, 47, 48, 49, 50, 51, 52, 53, 54, 55, 56, 57, 58, 59, 60, 61, 62, 63, 64, 65, 66, 67, 68, 69, 70, 71, 72, 73, 74, 75, 76, 77, 78, 79, 80, 81, 82, 83, 84, 85, 86, 87, 88, 89, 90, 91] (by decide +kernel) (by decide +kernel)
set_option maxRecDepth 20000 in
theorem gX9_way_X9_callOf : GoodIn wsX9_way (wsV RX9 166 RX9 yX9_callOf wsX9_callOf) := goodIn_app (goodIn_of _ (by decide +kernel)) ggX9_way_X9_callOf
set_option maxRecDepth 20000 in
theorem ggX9_way_X9_lies : GoodIn wsX9_way wsX9_lies := goodIn_r _ [16] (by decide +kernel) (by decide +kernel)
set_option maxRecDepth 20000 in
theorem gX9_way_X9_lies : GoodIn wsX9_way (va_wsS RX9 86 yX9_lies wsX9_lies) := goodIn_app (goodIn_of _ (by decide +kernel)) ggX9_way_X9_lies
theorem dX9_way_0 : decode cX9_way 0 = .ok (.aload_n 0, 1) := by decide +kernel
theorem dX9_way_1 : decode cX9_way 1 = .ok (.iload_n 1, 1) := by decide +kernel
theorem dX9_way_2 : decode cX9_way 2 = .ok (.iload_n 2, 1) := by decide +kernel
theorem dX9_way_3 : decode cX9_way 3 = .ok (.iload_n 3, 1) := by decide +kernel
theorem dX9_way_4 : decode cX9_way 4 = .ok (.iload 4, 2) := by decide +kernel
theorem dX9_way_6 : decode cX9_way 6 = .ok (.invokevirtual 166, 3) := by decide +kernel
theorem dX9_way_9 : decode cX9_way 9 = .ok (.istore 6, 2) := by decide +kernel
theorem dX9_way_11 : decode cX9_way 11 = .ok (.iload 6, 2) := by decide +kernel
theorem dX9_way_13 : decode cX9_way 13 = .ok (.iconst (-1), 1) := by decide +kernel
theorem dX9_way_14 : decode cX9_way 14 = .ok (.if_icmp .eq 19, 3) := by decide +kernel
theorem dX9_way_17 : decode cX9_way 17 = .ok (.iload 5, 2) := by decide +kernel
theorem dX9_way_19 : decode cX9_way 19 = .ok (.iconst 0, 1) := by decide +kernel
theorem dX9_way_20 : decode cX9_way 20 = .ok (.aload_n 0, 1) := by decide +kernel
theorem dX9_way_21 : decode cX9_way 21 = .ok (.getfield 71, 3) := by decide +kernel
theorem dX9_way_24 : decode cX9_way 24 = .ok (.iload 6, 2) := by decide +kernel
theorem dX9_way_26 : decode cX9_way 26 = .ok (.iaload, 1) := by decide +kernel
theorem dX9_way_27 : decode cX9_way 27 = .ok (.invokestatic 86, 3) := by decide +kernel
theorem dX9_way_30 : decode cX9_way 30 = .ok (.ifCond .ne 5, 3) := by decide +kernel
theorem dX9_way_33 : decode cX9_way 33 = .ok (.iconst (-1), 1) := by decide +kernel
theorem dX9_way_34 : decode cX9_way 34 = .ok (.ireturn, 1) := by decide +kernel
theorem dX9_way_35 : decode cX9_way 35 = .ok (.aload_n 0, 1) := by decide +kernel
theorem dX9_way_36 : decode cX9_way 36 = .ok (.getfield 71, 3) := by decide +kernel
theorem dX9_way_39 : decode cX9_way 39 = .ok (.iload 6, 2) := by decide +kernel
theorem dX9_way_41 : decode cX9_way 41 = .ok (.iaload, 1) := by decide +kernel
theorem dX9_way_42 : decode cX9_way 42 = .ok (.iload 5, 2) := by decide +kernel
theorem dX9_way_44 : decode cX9_way 44 = .ok (.if_icmp .le 15, 3) := by decide +kernel
theorem dX9_way_47 : decode cX9_way 47 = .ok (.aload_n 0, 1) := by decide +kernel
theorem dX9_way_48 : decode cX9_way 48 = .ok (.getfield 68, 3) := by decide +kernel
theorem dX9_way_51 : decode cX9_way 51 = .ok (.iload 6, 2) := by decide +kernel
theorem dX9_way_53 : decode cX9_way 53 = .ok (.iaload, 1) := by decide +kernel
theorem dX9_way_54 : decode cX9_way 54 = .ok (.istore 6, 2) := by decide +kernel
theorem dX9_way_56 : decode cX9_way 56 = .ok (.goto (-21), 3) := by decide +kernel
theorem dX9_way_59 : decode cX9_way 59 = .ok (.iload 6, 2) := by decide +kernel
theorem dX9_way_61 : decode cX9_way 61 = .ok (.sipush 2048, 3) := by decide +kernel
theorem dX9_way_64 : decode cX9_way 64 = .ok (.idiv, 1) := by decide +kernel
theorem dX9_way_65 : decode cX9_way 65 = .ok (.ireturn, 1) := by decide +kernel
theorem dX9_push_0 : decode cX9_push 0 = .ok (.bipush 24, 2) := by decide +kernel
theorem dX9_push_2 : decode cX9_push 2 = .ok (.istore_n 2, 1) := by decide +kernel
theorem dX9_push_3 : decode cX9_push 3 = .ok (.iload_n 2, 1) := by decide +kernel
theorem dX9_push_4 : decode cX9_push 4 = .ok (.ifCond .lt 32, 3) := by decide +kernel
theorem dX9_push_7 : decode cX9_push 7 = .ok (.aload_n 0, 1) := by decide +kernel
theorem dX9_push_8 : decode cX9_push 8 = .ok (.getfield 7, 3) := by decide +kernel
theorem dX9_push_11 : decode cX9_push 11 = .ok (.aload_n 0, 1) := by decide +kernel
theorem dX9_push_12 : decode cX9_push 12 = .ok (.getfield 169, 3) := by decide +kernel
theorem dX9_push_15 : decode cX9_push 15 = .ok (.iload_n 1, 1) := by decide +kernel
theorem dX9_push_16 : decode cX9_push 16 = .ok (.iload_n 2, 1) := by decide +kernel
theorem dX9_push_17 : decode cX9_push 17 = .ok (.ishr, 1) := by decide +kernel
theorem dX9_push_18 : decode cX9_push 18 = .ok (.i2b, 1) := by decide +kernel
theorem dX9_push_19 : decode cX9_push 19 = .ok (.bastore, 1) := by decide +kernel
theorem dX9_push_20 : decode cX9_push 20 = .ok (.aload_n 0, 1) := by decide +kernel
theorem dX9_push_21 : decode cX9_push 21 = .ok (.dup, 1) := by decide +kernel
theorem dX9_push_22 : decode cX9_push 22 = .ok (.getfield 169, 3) := by decide +kernel
theorem dX9_push_25 : decode cX9_push 25 = .ok (.iconst 1, 1) := by decide +kernel
theorem dX9_push_26 : decode cX9_push 26 = .ok (.iadd, 1) := by decide +kernel
theorem dX9_push_27 : decode cX9_push 27 = .ok (.putfield 169, 3) := by decide +kernel
theorem dX9_push_30 : decode cX9_push 30 = .ok (.iinc 2 (-8), 3) := by decide +kernel
theorem dX9_push_33 : decode cX9_push 33 = .ok (.goto (-30), 3) := by decide +kernel
theorem dX9_push_36 : decode cX9_push 36 = .ok (.return_, 1) := by decide +kernel
set_option maxRecDepth 20000 in
theorem ggX9_feed_X9_push : GoodIn wsX9_feed wsX9_push := goodIn_r _ [6, 7, 1, 8, 9, 10, 11, 12, 13, 14, 15, 16, 17, 18, 19, 20, 21, 22, 23, 24, 25, 26, 27, 28, 29, 30, 31, 32, 33, 34, 35, 36, 37, 38, 39, 40] (by decide +kernel) (by decide +kernel)
set_option maxRecDepth 20000 in
theorem gX9_feed_X9_push : GoodIn wsX9_feed (wsV RX9 172 RX9 yX9_push wsX9_push) := goodIn_app (goodIn_of _ (by decide +kernel)) ggX9_feed_X9_push
theorem dX9_feed_0 : decode cX9_feed 0 = .ok (.aload_n 0, 1) := by decide +kernel
theorem dX9_feed_1 : decode cX9_feed 1 = .ok (.getfield 169, 3) := by decide +kernel
theorem dX9_feed_4 : decode cX9_feed 4 = .ok (.bipush 20, 2) := by decide +kernel
theorem dX9_feed_6 : decode cX9_feed 6 = .ok (.iadd, 1) := by decide +kernel
theorem dX9_feed_7 : decode cX9_feed 7 = .ok (.bipush 80, 2) := by decide +kernel
theorem dX9_feed_9 : decode cX9_feed 9 = .ok (.if_icmp .le 5, 3) := by decide +kernel
theorem dX9_feed_12 : decode cX9_feed 12 = .ok (.iconst (-1), 1) := by decide +kernel
theorem dX9_feed_13 : decode cX9_feed 13 = .ok (.ireturn, 1) := by decide +kernel
theorem dX9_feed_14 : decode cX9_feed 14 = .ok (.aload_n 0, 1) := by decide +kernel
theorem dX9_feed_15 : decode cX9_feed 15 = .ok (.iload_n 1, 1) := by decide +kernel
theorem dX9_feed_16 : decode cX9_feed 16 = .ok (.invokevirtual 172, 3) := by decide +kernel
theorem dX9_feed_19 : decode cX9_feed 19 = .ok (.aload_n 0, 1) := by decide +kernel
theorem dX9_feed_20 : decode cX9_feed 20 = .ok (.iload_n 2, 1) := by decide +kernel
theorem dX9_feed_21 : decode cX9_feed 21 = .ok (.invokevirtual 172, 3) := by decide +kernel
theorem dX9_feed_24 : decode cX9_feed 24 = .ok (.aload_n 0, 1) := by decide +kernel
theorem dX9_feed_25 : decode cX9_feed 25 = .ok (.iload_n 3, 1) := by decide +kernel
theorem dX9_feed_26 : decode cX9_feed 26 = .ok (.invokevirtual 172, 3) := by decide +kernel
theorem dX9_feed_29 : decode cX9_feed 29 = .ok (.aload_n 0, 1) := by decide +kernel
theorem dX9_feed_30 : decode cX9_feed 30 = .ok (.iload 4, 2) := by decide +kernel
theorem dX9_feed_32 : decode cX9_feed 32 = .ok (.invokevirtual 172, 3) := by decide +kernel
theorem dX9_feed_35 : decode cX9_feed 35 = .ok (.aload_n 0, 1) := by decide +kernel
theorem dX9_feed_36 : decode cX9_feed 36 = .ok (.iload 5, 2) := by decide +kernel
theorem dX9_feed_38 : decode cX9_feed 38 = .ok (.invokevirtual 172, 3) := by decide +kernel
theorem dX9_feed_41 : decode cX9_feed 41 = .ok (.aload_n 0, 1) := by decide +kernel
theorem dX9_feed_42 : decode cX9_feed 42 = .ok (.getfield 169, 3) := by decide +kernel
theorem dX9_feed_45 : decode cX9_feed 45 = .ok (.ireturn, 1) := by decide +kernel
set_option maxRecDepth 20000 in
theorem ggX9_run_X9_isProgram : GoodIn wsX9_run wsX9_isProgram := goodIn_r _ [14, 15, 16, 13, 17] (by decide +kernel) (by decide +kernel)
set_option maxRecDepth 20000 in
theorem gX9_run_X9_isProgram : GoodIn wsX9_run (va_wsS RX9 90 yX9_isProgram wsX9_isProgram) := goodIn_app (goodIn_of _ (by decide +kernel)) ggX9_run_X9_isProgram
theorem dX9_run_0 : decode cX9_run 0 = .ok (.iload_n 1, 1) := by decide +kernel
theorem dX9_run_1 : decode cX9_run 1 = .ok (.invokestatic 90, 3) := by decide +kernel
theorem dX9_run_4 : decode cX9_run 4 = .ok (.ifCond .eq 15, 3) := by decide +kernel
theorem dX9_run_7 : decode cX9_run 7 = .ok (.iload_n 2, 1) := by decide +kernel
theorem dX9_run_8 : decode cX9_run 8 = .ok (.ifCond .lt 11, 3) := by decide +kernel
theorem dX9_run_11 : decode cX9_run 11 = .ok (.iload_n 2, 1) := by decide +kernel
theorem dX9_run_12 : decode cX9_run 12 = .ok (.aload_n 0, 1) := by decide +kernel
theorem dX9_run_13 : decode cX9_run 13 = .ok (.getfield 169, 3) := by decide +kernel
theorem dX9_run_16 : decode cX9_run 16 = .ok (.if_icmp .le 5, 3) := by decide +kernel
theorem dX9_run_19 : decode cX9_run 19 = .ok (.iconst (-1), 1) := by decide +kernel
theorem dX9_run_20 : decode cX9_run 20 = .ok (.ireturn, 1) := by decide +kernel
theorem dX9_run_21 : decode cX9_run 21 = .ok (.aload_n 0, 1) := by decide +kernel
theorem dX9_run_22 : decode cX9_run 22 = .ok (.iconst 0, 1) := by decide +kernel
theorem dX9_run_23 : decode cX9_run 23 = .ok (.putfield 169, 3) := by decide +kernel
theorem dX9_run_26 : decode cX9_run 26 = .ok (.aload_n 0, 1) := by decide +kernel
theorem dX9_run_27 : decode cX9_run 27 = .ok (.getfield 80, 3) := by decide +kernel
theorem dX9_run_30 : decode cX9_run 30 = .ok (.iconst 0, 1) := by decide +kernel
theorem dX9_run_31 : decode cX9_run 31 = .ok (.iconst 0, 1) := by decide +kernel
theorem dX9_run_32 : decode cX9_run 32 = .ok (.iastore, 1) := by decide +kernel
theorem dX9_run_33 : decode cX9_run 33 = .ok (.aload_n 0, 1) := by decide +kernel
theorem dX9_run_34 : decode cX9_run 34 = .ok (.getfield 80, 3) := by decide +kernel
theorem dX9_run_37 : decode cX9_run 37 = .ok (.iconst 1, 1) := by decide +kernel
theorem dX9_run_38 : decode cX9_run 38 = .ok (.iconst 0, 1) := by decide +kernel
theorem dX9_run_39 : decode cX9_run 39 = .ok (.iastore, 1) := by decide +kernel
theorem dX9_run_40 : decode cX9_run 40 = .ok (.iconst 0, 1) := by decide +kernel
theorem dX9_run_41 : decode cX9_run 41 = .ok (.istore_n 3, 1) := by decide +kernel
theorem dX9_run_42 : decode cX9_run 42 = .ok (.iconst 0, 1) := by decide +kernel
theorem dX9_run_43 : decode cX9_run 43 = .ok (.istore 4, 2) := by decide +kernel
theorem dX9_run_45 : decode cX9_run 45 = .ok (.iconst 0, 1) := by decide +kernel
theorem dX9_run_46 : decode cX9_run 46 = .ok (.istore 5, 2) := by decide +kernel
theorem dX9_run_48 : decode cX9_run 48 = .ok (.iconst 0, 1) := by decide +kernel
theorem dX9_run_49 : decode cX9_run 49 = .ok (.istore 6, 2) := by decide +kernel
theorem dX9_run_51 : decode cX9_run 51 = .ok (.aload_n 0, 1) := by decide +kernel
theorem dX9_run_52 : decode cX9_run 52 = .ok (.iconst 2, 1) := by decide +kernel
theorem dX9_run_53 : decode cX9_run 53 = .ok (.putfield 13, 3) := by decide +kernel
theorem dX9_run_56 : decode cX9_run 56 = .ok (.iconst 0, 1) := by decide +kernel
theorem dX9_run_57 : decode cX9_run 57 = .ok (.istore 7, 2) := by decide +kernel
theorem dX9_run_59 : decode cX9_run 59 = .ok (.iload 7, 2) := by decide +kernel
theorem dX9_run_61 : decode cX9_run 61 = .ok (.sipush 500, 3) := by decide +kernel
theorem dX9_run_64 : decode cX9_run 64 = .ok (.if_icmp .gt 339, 3) := by decide +kernel
theorem dX9_run_67 : decode cX9_run 67 = .ok (.iload_n 3, 1) := by decide +kernel
theorem dX9_run_68 : decode cX9_run 68 = .ok (.aload_n 0, 1) := by decide +kernel
theorem dX9_run_69 : decode cX9_run 69 = .ok (.getfield 17, 3) := by decide +kernel
theorem dX9_run_72 : decode cX9_run 72 = .ok (.iload_n 1, 1) := by decide +kernel
theorem dX9_run_73 : decode cX9_run 73 = .ok (.iaload, 1) := by decide +kernel
theorem dX9_run_74 : decode cX9_run 74 = .ok (.if_icmp .ge 19, 3) := by decide +kernel
theorem dX9_run_77 : decode cX9_run 77 = .ok (.aload_n 0, 1) := by decide +kernel
theorem dX9_run_78 : decode cX9_run 78 = .ok (.getfield 21, 3) := by decide +kernel
theorem dX9_run_81 : decode cX9_run 81 = .ok (.bipush 24, 2) := by decide +kernel
theorem dX9_run_83 : decode cX9_run 83 = .ok (.iload_n 1, 1) := by decide +kernel
theorem dX9_run_84 : decode cX9_run 84 = .ok (.imul, 1) := by decide +kernel
theorem dX9_run_85 : decode cX9_run 85 = .ok (.iload_n 3, 1) := by decide +kernel
theorem dX9_run_86 : decode cX9_run 86 = .ok (.iadd, 1) := by decide +kernel
theorem dX9_run_87 : decode cX9_run 87 = .ok (.iaload, 1) := by decide +kernel
theorem dX9_run_88 : decode cX9_run 88 = .ok (.bipush 9, 2) := by decide +kernel
theorem dX9_run_90 : decode cX9_run 90 = .ok (.if_icmp .ne 11, 3) := by decide +kernel
theorem dX9_run_93 : decode cX9_run 93 = .ok (.aload_n 0, 1) := by decide +kernel
theorem dX9_run_94 : decode cX9_run 94 = .ok (.iconst 0, 1) := by decide +kernel
theorem dX9_run_95 : decode cX9_run 95 = .ok (.putfield 13, 3) := by decide +kernel
theorem dX9_run_98 : decode cX9_run 98 = .ok (.iload 6, 2) := by decide +kernel
theorem dX9_run_100 : decode cX9_run 100 = .ok (.ireturn, 1) := by decide +kernel
theorem dX9_run_101 : decode cX9_run 101 = .ok (.iload 7, 2) := by decide +kernel
theorem dX9_run_103 : decode cX9_run 103 = .ok (.sipush 500, 3) := by decide +kernel
theorem dX9_run_106 : decode cX9_run 106 = .ok (.if_icmp .ne 6, 3) := by decide +kernel
theorem dX9_run_109 : decode cX9_run 109 = .ok (.iload 6, 2) := by decide +kernel
theorem dX9_run_111 : decode cX9_run 111 = .ok (.ireturn, 1) := by decide +kernel
theorem dX9_run_112 : decode cX9_run 112 = .ok (.bipush 24, 2) := by decide +kernel
theorem dX9_run_114 : decode cX9_run 114 = .ok (.iload_n 1, 1) := by decide +kernel
theorem dX9_run_115 : decode cX9_run 115 = .ok (.imul, 1) := by decide +kernel
theorem dX9_run_116 : decode cX9_run 116 = .ok (.iload_n 3, 1) := by decide +kernel
theorem dX9_run_117 : decode cX9_run 117 = .ok (.iadd, 1) := by decide +kernel
theorem dX9_run_118 : decode cX9_run 118 = .ok (.istore 8, 2) := by decide +kernel
theorem dX9_run_120 : decode cX9_run 120 = .ok (.aload_n 0, 1) := by decide +kernel
theorem dX9_run_121 : decode cX9_run 121 = .ok (.getfield 24, 3) := by decide +kernel
theorem dX9_run_124 : decode cX9_run 124 = .ok (.iload 8, 2) := by decide +kernel
theorem dX9_run_126 : decode cX9_run 126 = .ok (.iaload, 1) := by decide +kernel
theorem dX9_run_127 : decode cX9_run 127 = .ok (.istore 9, 2) := by decide +kernel
theorem dX9_run_129 : decode cX9_run 129 = .ok (.iinc 3 1, 3) := by decide +kernel
theorem dX9_run_132 : decode cX9_run 132 = .ok (.aload_n 0, 1) := by decide +kernel
theorem dX9_run_133 : decode cX9_run 133 = .ok (.getfield 21, 3) := by decide +kernel
theorem dX9_run_136 : decode cX9_run 136 = .ok (.iload 8, 2) := by decide +kernel
theorem dX9_run_138 : decode cX9_run 138 = .ok (.iaload, 1) := by decide +kernel
theorem dX9_run_139 : decode cX9_run 139 = .ok (.tableswitch 258 0 8 #[49, 66, 94, 113, 150, 170, 202, 213, 252], 49) := by decide +kernel
theorem dX9_run_188 : decode cX9_run 188 = .ok (.aload_n 0, 1) := by decide +kernel
theorem dX9_run_189 : decode cX9_run 189 = .ok (.getfield 80, 3) := by decide +kernel
theorem dX9_run_192 : decode cX9_run 192 = .ok (.iload 9, 2) := by decide +kernel
theorem dX9_run_194 : decode cX9_run 194 = .ok (.aload_n 0, 1) := by decide +kernel
theorem dX9_run_195 : decode cX9_run 195 = .ok (.getfield 27, 3) := by decide +kernel
theorem dX9_run_198 : decode cX9_run 198 = .ok (.iload 8, 2) := by decide +kernel
theorem dX9_run_200 : decode cX9_run 200 = .ok (.iaload, 1) := by decide +kernel
theorem dX9_run_201 : decode cX9_run 201 = .ok (.iastore, 1) := by decide +kernel
theorem dX9_run_202 : decode cX9_run 202 = .ok (.goto 195, 3) := by decide +kernel
theorem dX9_run_205 : decode cX9_run 205 = .ok (.aload_n 0, 1) := by decide +kernel
theorem dX9_run_206 : decode cX9_run 206 = .ok (.getfield 80, 3) := by decide +kernel
theorem dX9_run_209 : decode cX9_run 209 = .ok (.iload 9, 2) := by decide +kernel
theorem dX9_run_211 : decode cX9_run 211 = .ok (.aload_n 0, 1) := by decide +kernel
theorem dX9_run_212 : decode cX9_run 212 = .ok (.getfield 80, 3) := by decide +kernel
theorem dX9_run_215 : decode cX9_run 215 = .ok (.iload 9, 2) := by decide +kernel
theorem dX9_run_217 : decode cX9_run 217 = .ok (.iaload, 1) := by decide +kernel
theorem dX9_run_218 : decode cX9_run 218 = .ok (.aload_n 0, 1) := by decide +kernel
theorem dX9_run_219 : decode cX9_run 219 = .ok (.getfield 27, 3) := by decide +kernel
theorem dX9_run_222 : decode cX9_run 222 = .ok (.iload 8, 2) := by decide +kernel
theorem dX9_run_224 : decode cX9_run 224 = .ok (.iaload, 1) := by decide +kernel
theorem dX9_run_225 : decode cX9_run 225 = .ok (.iadd, 1) := by decide +kernel
theorem dX9_run_226 : decode cX9_run 226 = .ok (.bipush 32, 2) := by decide +kernel
theorem dX9_run_228 : decode cX9_run 228 = .ok (.irem, 1) := by decide +kernel
theorem dX9_run_229 : decode cX9_run 229 = .ok (.iastore, 1) := by decide +kernel
theorem dX9_run_230 : decode cX9_run 230 = .ok (.goto 167, 3) := by decide +kernel
theorem dX9_run_233 : decode cX9_run 233 = .ok (.aload_n 0, 1) := by decide +kernel
theorem dX9_run_234 : decode cX9_run 234 = .ok (.getfield 80, 3) := by decide +kernel
theorem dX9_run_237 : decode cX9_run 237 = .ok (.iload 9, 2) := by decide +kernel
theorem dX9_run_239 : decode cX9_run 239 = .ok (.aload_n 0, 1) := by decide +kernel
theorem dX9_run_240 : decode cX9_run 240 = .ok (.getfield 80, 3) := by decide +kernel
theorem dX9_run_243 : decode cX9_run 243 = .ok (.iconst 1, 1) := by decide +kernel
theorem dX9_run_244 : decode cX9_run 244 = .ok (.iload 9, 2) := by decide +kernel
theorem dX9_run_246 : decode cX9_run 246 = .ok (.isub, 1) := by decide +kernel
theorem dX9_run_247 : decode cX9_run 247 = .ok (.iaload, 1) := by decide +kernel
theorem dX9_run_248 : decode cX9_run 248 = .ok (.iastore, 1) := by decide +kernel
theorem dX9_run_249 : decode cX9_run 249 = .ok (.goto 148, 3) := by decide +kernel
theorem dX9_run_252 : decode cX9_run 252 = .ok (.iload 5, 2) := by decide +kernel
theorem dX9_run_254 : decode cX9_run 254 = .ok (.iload_n 2, 1) := by decide +kernel
theorem dX9_run_255 : decode cX9_run 255 = .ok (.if_icmp .ne 11, 3) := by decide +kernel
theorem dX9_run_258 : decode cX9_run 258 = .ok (.aload_n 0, 1) := by decide +kernel
theorem dX9_run_259 : decode cX9_run 259 = .ok (.iconst 1, 1) := by decide +kernel
theorem dX9_run_260 : decode cX9_run 260 = .ok (.putfield 13, 3) := by decide +kernel
theorem dX9_run_263 : decode cX9_run 263 = .ok (.iload 6, 2) := by decide +kernel
theorem dX9_run_265 : decode cX9_run 265 = .ok (.ireturn, 1) := by decide +kernel
theorem dX9_run_266 : decode cX9_run 266 = .ok (.aload_n 0, 1) := by decide +kernel
theorem dX9_run_267 : decode cX9_run 267 = .ok (.getfield 80, 3) := by decide +kernel
theorem dX9_run_270 : decode cX9_run 270 = .ok (.iload 9, 2) := by decide +kernel
theorem dX9_run_272 : decode cX9_run 272 = .ok (.aload_n 0, 1) := by decide +kernel
theorem dX9_run_273 : decode cX9_run 273 = .ok (.getfield 7, 3) := by decide +kernel
theorem dX9_run_276 : decode cX9_run 276 = .ok (.iload 5, 2) := by decide +kernel
theorem dX9_run_278 : decode cX9_run 278 = .ok (.baload, 1) := by decide +kernel
theorem dX9_run_279 : decode cX9_run 279 = .ok (.bipush 31, 2) := by decide +kernel
theorem dX9_run_281 : decode cX9_run 281 = .ok (.iand, 1) := by decide +kernel
theorem dX9_run_282 : decode cX9_run 282 = .ok (.iastore, 1) := by decide +kernel
theorem dX9_run_283 : decode cX9_run 283 = .ok (.iinc 5 1, 3) := by decide +kernel
theorem dX9_run_286 : decode cX9_run 286 = .ok (.goto 111, 3) := by decide +kernel
theorem dX9_run_289 : decode cX9_run 289 = .ok (.aload_n 0, 1) := by decide +kernel
theorem dX9_run_290 : decode cX9_run 290 = .ok (.getfield 80, 3) := by decide +kernel
theorem dX9_run_293 : decode cX9_run 293 = .ok (.iload 9, 2) := by decide +kernel
theorem dX9_run_295 : decode cX9_run 295 = .ok (.dup2, 1) := by decide +kernel
theorem dX9_run_296 : decode cX9_run 296 = .ok (.iaload, 1) := by decide +kernel
theorem dX9_run_297 : decode cX9_run 297 = .ok (.aload_n 0, 1) := by decide +kernel
theorem dX9_run_298 : decode cX9_run 298 = .ok (.getfield 27, 3) := by decide +kernel
theorem dX9_run_301 : decode cX9_run 301 = .ok (.iload 8, 2) := by decide +kernel
theorem dX9_run_303 : decode cX9_run 303 = .ok (.iaload, 1) := by decide +kernel
theorem dX9_run_304 : decode cX9_run 304 = .ok (.iand, 1) := by decide +kernel
theorem dX9_run_305 : decode cX9_run 305 = .ok (.iastore, 1) := by decide +kernel
theorem dX9_run_306 : decode cX9_run 306 = .ok (.goto 91, 3) := by decide +kernel
theorem dX9_run_309 : decode cX9_run 309 = .ok (.aload_n 0, 1) := by decide +kernel
theorem dX9_run_310 : decode cX9_run 310 = .ok (.getfield 80, 3) := by decide +kernel
theorem dX9_run_313 : decode cX9_run 313 = .ok (.iload 9, 2) := by decide +kernel
theorem dX9_run_315 : decode cX9_run 315 = .ok (.iaload, 1) := by decide +kernel
theorem dX9_run_316 : decode cX9_run 316 = .ok (.aload_n 0, 1) := by decide +kernel
theorem dX9_run_317 : decode cX9_run 317 = .ok (.getfield 27, 3) := by decide +kernel
theorem dX9_run_320 : decode cX9_run 320 = .ok (.iload 8, 2) := by decide +kernel
theorem dX9_run_322 : decode cX9_run 322 = .ok (.iaload, 1) := by decide +kernel
theorem dX9_run_323 : decode cX9_run 323 = .ok (.if_icmp .ge 13, 3) := by decide +kernel
theorem dX9_run_326 : decode cX9_run 326 = .ok (.aload_n 0, 1) := by decide +kernel
theorem dX9_run_327 : decode cX9_run 327 = .ok (.getfield 30, 3) := by decide +kernel
theorem dX9_run_330 : decode cX9_run 330 = .ok (.iload 8, 2) := by decide +kernel
theorem dX9_run_332 : decode cX9_run 332 = .ok (.iaload, 1) := by decide +kernel
theorem dX9_run_333 : decode cX9_run 333 = .ok (.goto 4, 3) := by decide +kernel
theorem dX9_run_336 : decode cX9_run 336 = .ok (.iload_n 3, 1) := by decide +kernel
theorem dX9_run_337 : decode cX9_run 337 = .ok (.istore_n 3, 1) := by decide +kernel
theorem dX9_run_338 : decode cX9_run 338 = .ok (.goto 59, 3) := by decide +kernel
theorem dX9_run_341 : decode cX9_run 341 = .ok (.aload_n 0, 1) := by decide +kernel
theorem dX9_run_342 : decode cX9_run 342 = .ok (.getfield 30, 3) := by decide +kernel
theorem dX9_run_345 : decode cX9_run 345 = .ok (.iload 8, 2) := by decide +kernel
theorem dX9_run_347 : decode cX9_run 347 = .ok (.iaload, 1) := by decide +kernel
theorem dX9_run_348 : decode cX9_run 348 = .ok (.istore_n 3, 1) := by decide +kernel
theorem dX9_run_349 : decode cX9_run 349 = .ok (.goto 48, 3) := by decide +kernel
theorem dX9_run_352 : decode cX9_run 352 = .ok (.aload_n 0, 1) := by decide +kernel
theorem dX9_run_353 : decode cX9_run 353 = .ok (.getfield 36, 3) := by decide +kernel
theorem dX9_run_356 : decode cX9_run 356 = .ok (.bipush 64, 2) := by decide +kernel
theorem dX9_run_358 : decode cX9_run 358 = .ok (.iload_n 1, 1) := by decide +kernel
theorem dX9_run_359 : decode cX9_run 359 = .ok (.imul, 1) := by decide +kernel
theorem dX9_run_360 : decode cX9_run 360 = .ok (.bipush 32, 2) := by decide +kernel
theorem dX9_run_362 : decode cX9_run 362 = .ok (.iload 4, 2) := by decide +kernel
theorem dX9_run_364 : decode cX9_run 364 = .ok (.imul, 1) := by decide +kernel
theorem dX9_run_365 : decode cX9_run 365 = .ok (.iadd, 1) := by decide +kernel
theorem dX9_run_366 : decode cX9_run 366 = .ok (.aload_n 0, 1) := by decide +kernel
theorem dX9_run_367 : decode cX9_run 367 = .ok (.getfield 80, 3) := by decide +kernel
theorem dX9_run_370 : decode cX9_run 370 = .ok (.iconst 0, 1) := by decide +kernel
theorem dX9_run_371 : decode cX9_run 371 = .ok (.iaload, 1) := by decide +kernel
theorem dX9_run_372 : decode cX9_run 372 = .ok (.iadd, 1) := by decide +kernel
theorem dX9_run_373 : decode cX9_run 373 = .ok (.dup2, 1) := by decide +kernel
theorem dX9_run_374 : decode cX9_run 374 = .ok (.iaload, 1) := by decide +kernel
theorem dX9_run_375 : decode cX9_run 375 = .ok (.iconst 1, 1) := by decide +kernel
theorem dX9_run_376 : decode cX9_run 376 = .ok (.aload_n 0, 1) := by decide +kernel
theorem dX9_run_377 : decode cX9_run 377 = .ok (.getfield 80, 3) := by decide +kernel
theorem dX9_run_380 : decode cX9_run 380 = .ok (.iconst 1, 1) := by decide +kernel
theorem dX9_run_381 : decode cX9_run 381 = .ok (.iaload, 1) := by decide +kernel
theorem dX9_run_382 : decode cX9_run 382 = .ok (.ishl, 1) := by decide +kernel
theorem dX9_run_383 : decode cX9_run 383 = .ok (.ior, 1) := by decide +kernel
theorem dX9_run_384 : decode cX9_run 384 = .ok (.iastore, 1) := by decide +kernel
theorem dX9_run_385 : decode cX9_run 385 = .ok (.iinc 6 1, 3) := by decide +kernel
theorem dX9_run_388 : decode cX9_run 388 = .ok (.goto 9, 3) := by decide +kernel
theorem dX9_run_391 : decode cX9_run 391 = .ok (.iconst 1, 1) := by decide +kernel
theorem dX9_run_392 : decode cX9_run 392 = .ok (.istore 4, 2) := by decide +kernel
theorem dX9_run_394 : decode cX9_run 394 = .ok (.goto 3, 3) := by decide +kernel
theorem dX9_run_397 : decode cX9_run 397 = .ok (.iinc 7 1, 3) := by decide +kernel
theorem dX9_run_400 : decode cX9_run 400 = .ok (.goto (-341), 3) := by decide +kernel
theorem dX9_run_403 : decode cX9_run 403 = .ok (.iload 6, 2) := by decide +kernel
theorem dX9_run_405 : decode cX9_run 405 = .ok (.ireturn, 1) := by decide +kernel
theorem dX9_ended_0 : decode cX9_ended 0 = .ok (.aload_n 0, 1) := by decide +kernel
theorem dX9_ended_1 : decode cX9_ended 1 = .ok (.getfield 13, 3) := by decide +kernel
theorem dX9_ended_4 : decode cX9_ended 4 = .ok (.ireturn, 1) := by decide +kernel
set_option maxRecDepth 20000 in
theorem ggX9_seen_X9_isProgram : GoodIn wsX9_seen wsX9_isProgram := goodIn_r _ [5, 6, 7, 4, 8] (by decide +kernel) (by decide +kernel)
set_option maxRecDepth 20000 in
theorem gX9_seen_X9_isProgram : GoodIn wsX9_seen (va_wsS RX9 90 yX9_isProgram wsX9_isProgram) := goodIn_app (goodIn_of _ (by decide +kernel)) ggX9_seen_X9_isProgram
set_option maxRecDepth 20000 in
theorem ggX9_seen_X9_isPlace : GoodIn wsX9_seen wsX9_isPlace := goodIn_r _ [11, 6, 7, 4, 8] (by decide +kernel) (by decide +kernel)
set_option maxRecDepth 20000 in
theorem gX9_seen_X9_isPlace : GoodIn wsX9_seen (va_wsS RX9 143 yX9_isPlace wsX9_isPlace) := goodIn_app (goodIn_of _ (by decide +kernel)) ggX9_seen_X9_isPlace
theorem dX9_seen_0 : decode cX9_seen 0 = .ok (.iload_n 1, 1) := by decide +kernel
theorem dX9_seen_1 : decode cX9_seen 1 = .ok (.invokestatic 90, 3) := by decide +kernel
theorem dX9_seen_4 : decode cX9_seen 4 = .ok (.ifCond .eq 30, 3) := by decide +kernel
theorem dX9_seen_7 : decode cX9_seen 7 = .ok (.iload_n 2, 1) := by decide +kernel
theorem dX9_seen_8 : decode cX9_seen 8 = .ok (.iload_n 3, 1) := by decide +kernel
theorem dX9_seen_9 : decode cX9_seen 9 = .ok (.invokestatic 143, 3) := by decide +kernel
theorem dX9_seen_12 : decode cX9_seen 12 = .ok (.ifCond .eq 22, 3) := by decide +kernel
theorem dX9_seen_15 : decode cX9_seen 15 = .ok (.aload_n 0, 1) := by decide +kernel
theorem dX9_seen_16 : decode cX9_seen 16 = .ok (.getfield 36, 3) := by decide +kernel
theorem dX9_seen_19 : decode cX9_seen 19 = .ok (.bipush 64, 2) := by decide +kernel
