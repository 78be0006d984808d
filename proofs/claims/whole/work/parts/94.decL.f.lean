/-! DECODE ROWS -/
theorem d_L_law_389 : decode b_L_law 389 = .ok (.iadd, 1) := by decide +kernel
theorem d_L_law_390 : decode b_L_law 390 = .ok (.iaload, 1) := by decide +kernel
theorem d_L_law_391 : decode b_L_law 391 = .ok (.aload_n 0, 1) := by decide +kernel
theorem d_L_law_392 : decode b_L_law 392 = .ok (.iload 4, 2) := by decide +kernel
theorem d_L_law_394 : decode b_L_law 394 = .ok (.iconst 3, 1) := by decide +kernel
theorem d_L_law_395 : decode b_L_law 395 = .ok (.iadd, 1) := by decide +kernel
theorem d_L_law_396 : decode b_L_law 396 = .ok (.iaload, 1) := by decide +kernel
theorem d_L_law_397 : decode b_L_law 397 = .ok (.aload_n 0, 1) := by decide +kernel
theorem d_L_law_398 : decode b_L_law 398 = .ok (.iload 4, 2) := by decide +kernel
theorem d_L_law_400 : decode b_L_law 400 = .ok (.iconst 4, 1) := by decide +kernel
theorem d_L_law_401 : decode b_L_law 401 = .ok (.iadd, 1) := by decide +kernel
theorem d_L_law_402 : decode b_L_law 402 = .ok (.iaload, 1) := by decide +kernel
theorem d_L_law_403 : decode b_L_law 403 = .ok (.invokevirtual 95, 3) := by decide +kernel
theorem d_L_law_406 : decode b_L_law 406 = .ok (.istore 6, 2) := by decide +kernel
theorem d_L_law_408 : decode b_L_law 408 = .ok (.aload_n 2, 1) := by decide +kernel
theorem d_L_law_409 : decode b_L_law 409 = .ok (.invokevirtual 82, 3) := by decide +kernel
theorem d_L_law_412 : decode b_L_law 412 = .ok (.iload 5, 2) := by decide +kernel
theorem d_L_law_414 : decode b_L_law 414 = .ok (.if_icmp .eq 5, 3) := by decide +kernel
theorem d_L_law_417 : decode b_L_law 417 = .ok (.iconst 0, 1) := by decide +kernel
theorem d_L_law_418 : decode b_L_law 418 = .ok (.ireturn, 1) := by decide +kernel
theorem d_L_law_419 : decode b_L_law 419 = .ok (.iload 5, 2) := by decide +kernel
theorem d_L_law_421 : decode b_L_law 421 = .ok (.ifCond .ne 15, 3) := by decide +kernel
theorem d_L_law_424 : decode b_L_law 424 = .ok (.aload_n 3, 1) := by decide +kernel
theorem d_L_law_425 : decode b_L_law 425 = .ok (.iconst 0, 1) := by decide +kernel
theorem d_L_law_426 : decode b_L_law 426 = .ok (.laload, 1) := by decide +kernel
theorem d_L_law_427 : decode b_L_law 427 = .ok (.iload 6, 2) := by decide +kernel
theorem d_L_law_429 : decode b_L_law 429 = .ok (.i2l, 1) := by decide +kernel
theorem d_L_law_430 : decode b_L_law 430 = .ok (.lcmp, 1) := by decide +kernel
theorem d_L_law_431 : decode b_L_law 431 = .ok (.ifCond .eq 5, 3) := by decide +kernel
theorem d_L_law_434 : decode b_L_law 434 = .ok (.iconst 0, 1) := by decide +kernel
theorem d_L_law_435 : decode b_L_law 435 = .ok (.ireturn, 1) := by decide +kernel
theorem d_L_law_436 : decode b_L_law 436 = .ok (.goto 732, 3) := by decide +kernel
theorem d_L_law_439 : decode b_L_law 439 = .ok (.aload_n 1, 1) := by decide +kernel
theorem d_L_law_440 : decode b_L_law 440 = .ok (.aload_n 0, 1) := by decide +kernel
theorem d_L_law_441 : decode b_L_law 441 = .ok (.iload 4, 2) := by decide +kernel
theorem d_L_law_443 : decode b_L_law 443 = .ok (.iconst 1, 1) := by decide +kernel
theorem d_L_law_444 : decode b_L_law 444 = .ok (.iadd, 1) := by decide +kernel
theorem d_L_law_445 : decode b_L_law 445 = .ok (.iaload, 1) := by decide +kernel
theorem d_L_law_446 : decode b_L_law 446 = .ok (.aload_n 3, 1) := by decide +kernel
theorem d_L_law_447 : decode b_L_law 447 = .ok (.invokestatic 96, 3) := by decide +kernel
theorem d_L_law_450 : decode b_L_law 450 = .ok (.istore 5, 2) := by decide +kernel
theorem d_L_law_452 : decode b_L_law 452 = .ok (.aload_n 2, 1) := by decide +kernel
theorem d_L_law_453 : decode b_L_law 453 = .ok (.aload_n 0, 1) := by decide +kernel
theorem d_L_law_454 : decode b_L_law 454 = .ok (.iload 4, 2) := by decide +kernel
theorem d_L_law_456 : decode b_L_law 456 = .ok (.iconst 1, 1) := by decide +kernel
theorem d_L_law_457 : decode b_L_law 457 = .ok (.iadd, 1) := by decide +kernel
theorem d_L_law_458 : decode b_L_law 458 = .ok (.iaload, 1) := by decide +kernel
theorem d_L_law_459 : decode b_L_law 459 = .ok (.invokevirtual 98, 3) := by decide +kernel
theorem d_L_law_462 : decode b_L_law 462 = .ok (.istore 6, 2) := by decide +kernel
theorem d_L_law_464 : decode b_L_law 464 = .ok (.aload_n 2, 1) := by decide +kernel
