theorem wd_833 : (Jvm.Cond.methodLink "SilentSaleLaw" (49 : Nat) ({ cls := "SilentSale", name := "trick", desc := "(II)I" } : Jvm.MethodName)) ∈ tb_L := tb_in (i := 833) (by decide +kernel) (by decide +kernel)
theorem wd_834 : (Jvm.Cond.instanceMethod ({ cls := "SilentSale", name := "trick", desc := "(II)I" } : Jvm.MethodName)) ∈ tb_L := tb_in (i := 834) (by decide +kernel) (by decide +kernel)
theorem wd_835 : (Jvm.Cond.selects "SilentSale" ({ cls := "SilentSale", name := "trick", desc := "(II)I" } : Jvm.MethodName) ({ cls := "SilentSale", name := "trick", desc := "(II)I" } : Jvm.MethodName)) ∈ tb_L := tb_in (i := 835) (by decide +kernel) (by decide +kernel)
theorem wd_1603 : (Jvm.Cond.methodLink "SilentSaleLaw" (52 : Nat) ({ cls := "SilentSaleModel", name := "trick", desc := "(II)I" } : Jvm.MethodName)) ∈ tb_L := tb_in (i := 1603) (by decide +kernel) (by decide +kernel)
theorem wd_1604 : (Jvm.Cond.instanceMethod ({ cls := "SilentSaleModel", name := "trick", desc := "(II)I" } : Jvm.MethodName)) ∈ tb_L := tb_in (i := 1604) (by decide +kernel) (by decide +kernel)
theorem wd_1605 : (Jvm.Cond.selects "SilentSaleModel" ({ cls := "SilentSaleModel", name := "trick", desc := "(II)I" } : Jvm.MethodName) ({ cls := "SilentSaleModel", name := "trick", desc := "(II)I" } : Jvm.MethodName)) ∈ tb_L := tb_in (i := 1605) (by decide +kernel) (by decide +kernel)
theorem dL_law_406 : decode cL_law 406 = .ok (.aload_n 1, 1) := by decide +kernel
theorem dL_law_407 : decode cL_law 407 = .ok (.aload_n 0, 1) := by decide +kernel
theorem dL_law_408 : decode cL_law 408 = .ok (.iload_n 3, 1) := by decide +kernel
theorem dL_law_409 : decode cL_law 409 = .ok (.iconst 1, 1) := by decide +kernel
theorem dL_law_410 : decode cL_law 410 = .ok (.iadd, 1) := by decide +kernel
theorem dL_law_411 : decode cL_law 411 = .ok (.iaload, 1) := by decide +kernel
theorem dL_law_412 : decode cL_law 412 = .ok (.aload_n 0, 1) := by decide +kernel
theorem dL_law_413 : decode cL_law 413 = .ok (.iload_n 3, 1) := by decide +kernel
theorem dL_law_414 : decode cL_law 414 = .ok (.iconst 2, 1) := by decide +kernel
theorem dL_law_415 : decode cL_law 415 = .ok (.iadd, 1) := by decide +kernel
theorem dL_law_416 : decode cL_law 416 = .ok (.iaload, 1) := by decide +kernel
theorem dL_law_417 : decode cL_law 417 = .ok (.invokevirtual 49, 3) := by decide +kernel
theorem dL_law_420 : decode cL_law 420 = .ok (.aload_n 2, 1) := by decide +kernel
theorem dL_law_421 : decode cL_law 421 = .ok (.aload_n 0, 1) := by decide +kernel
theorem dL_law_422 : decode cL_law 422 = .ok (.iload_n 3, 1) := by decide +kernel
theorem dL_law_423 : decode cL_law 423 = .ok (.iconst 1, 1) := by decide +kernel
theorem dL_law_424 : decode cL_law 424 = .ok (.iadd, 1) := by decide +kernel
theorem dL_law_425 : decode cL_law 425 = .ok (.iaload, 1) := by decide +kernel
theorem dL_law_426 : decode cL_law 426 = .ok (.aload_n 0, 1) := by decide +kernel
theorem dL_law_427 : decode cL_law 427 = .ok (.iload_n 3, 1) := by decide +kernel
theorem dL_law_428 : decode cL_law 428 = .ok (.iconst 2, 1) := by decide +kernel
theorem dL_law_429 : decode cL_law 429 = .ok (.iadd, 1) := by decide +kernel
theorem dL_law_430 : decode cL_law 430 = .ok (.iaload, 1) := by decide +kernel
theorem dL_law_431 : decode cL_law 431 = .ok (.invokevirtual 52, 3) := by decide +kernel
theorem dL_law_434 : decode cL_law 434 = .ok (.if_icmp .eq 661, 3) := by decide +kernel
theorem wd_854 : (Jvm.Cond.methodLink "SilentSaleLaw" (53 : Nat) ({ cls := "SilentSale", name := "minute", desc := "()I" } : Jvm.MethodName)) ∈ tb_L := tb_in (i := 854) (by decide +kernel) (by decide +kernel)
theorem wd_855 : (Jvm.Cond.instanceMethod ({ cls := "SilentSale", name := "minute", desc := "()I" } : Jvm.MethodName)) ∈ tb_L := tb_in (i := 855) (by decide +kernel) (by decide +kernel)
theorem wd_856 : (Jvm.Cond.selects "SilentSale" ({ cls := "SilentSale", name := "minute", desc := "()I" } : Jvm.MethodName) ({ cls := "SilentSale", name := "minute", desc := "()I" } : Jvm.MethodName)) ∈ tb_L := tb_in (i := 856) (by decide +kernel) (by decide +kernel)
theorem wd_1615 : (Jvm.Cond.methodLink "SilentSaleLaw" (56 : Nat) ({ cls := "SilentSaleModel", name := "minute", desc := "()I" } : Jvm.MethodName)) ∈ tb_L := tb_in (i := 1615) (by decide +kernel) (by decide +kernel)
theorem wd_1616 : (Jvm.Cond.instanceMethod ({ cls := "SilentSaleModel", name := "minute", desc := "()I" } : Jvm.MethodName)) ∈ tb_L := tb_in (i := 1616) (by decide +kernel) (by decide +kernel)
theorem wd_1617 : (Jvm.Cond.selects "SilentSaleModel" ({ cls := "SilentSaleModel", name := "minute", desc := "()I" } : Jvm.MethodName) ({ cls := "SilentSaleModel", name := "minute", desc := "()I" } : Jvm.MethodName)) ∈ tb_L := tb_in (i := 1617) (by decide +kernel) (by decide +kernel)
theorem dL_law_439 : decode cL_law 439 = .ok (.aload_n 1, 1) := by decide +kernel
theorem dL_law_440 : decode cL_law 440 = .ok (.invokevirtual 53, 3) := by decide +kernel
theorem dL_law_443 : decode cL_law 443 = .ok (.aload_n 2, 1) := by decide +kernel
theorem dL_law_444 : decode cL_law 444 = .ok (.invokevirtual 56, 3) := by decide +kernel
theorem dL_law_447 : decode cL_law 447 = .ok (.if_icmp .eq 648, 3) := by decide +kernel
theorem wd_935 : (Jvm.Cond.methodLink "SilentSaleLaw" (57 : Nat) ({ cls := "SilentSale", name := "sit", desc := "(II)I" } : Jvm.MethodName)) ∈ tb_L := tb_in (i := 935) (by decide +kernel) (by decide +kernel)
theorem wd_936 : (Jvm.Cond.instanceMethod ({ cls := "SilentSale", name := "sit", desc := "(II)I" } : Jvm.MethodName)) ∈ tb_L := tb_in (i := 936) (by decide +kernel) (by decide +kernel)
theorem wd_937 : (Jvm.Cond.selects "SilentSale" ({ cls := "SilentSale", name := "sit", desc := "(II)I" } : Jvm.MethodName) ({ cls := "SilentSale", name := "sit", desc := "(II)I" } : Jvm.MethodName)) ∈ tb_L := tb_in (i := 937) (by decide +kernel) (by decide +kernel)
theorem wd_1676 : (Jvm.Cond.methodLink "SilentSaleLaw" (60 : Nat) ({ cls := "SilentSaleModel", name := "sit", desc := "(II)I" } : Jvm.MethodName)) ∈ tb_L := tb_in (i := 1676) (by decide +kernel) (by decide +kernel)
theorem wd_1677 : (Jvm.Cond.instanceMethod ({ cls := "SilentSaleModel", name := "sit", desc := "(II)I" } : Jvm.MethodName)) ∈ tb_L := tb_in (i := 1677) (by decide +kernel) (by decide +kernel)
theorem wd_1678 : (Jvm.Cond.selects "SilentSaleModel" ({ cls := "SilentSaleModel", name := "sit", desc := "(II)I" } : Jvm.MethodName) ({ cls := "SilentSaleModel", name := "sit", desc := "(II)I" } : Jvm.MethodName)) ∈ tb_L := tb_in (i := 1678) (by decide +kernel) (by decide +kernel)
theorem dL_law_452 : decode cL_law 452 = .ok (.aload_n 1, 1) := by decide +kernel
theorem dL_law_453 : decode cL_law 453 = .ok (.aload_n 0, 1) := by decide +kernel
theorem dL_law_454 : decode cL_law 454 = .ok (.iload_n 3, 1) := by decide +kernel
theorem dL_law_455 : decode cL_law 455 = .ok (.iconst 1, 1) := by decide +kernel
theorem dL_law_456 : decode cL_law 456 = .ok (.iadd, 1) := by decide +kernel
theorem dL_law_457 : decode cL_law 457 = .ok (.iaload, 1) := by decide +kernel
theorem dL_law_458 : decode cL_law 458 = .ok (.aload_n 0, 1) := by decide +kernel
theorem dL_law_459 : decode cL_law 459 = .ok (.iload_n 3, 1) := by decide +kernel
theorem dL_law_460 : decode cL_law 460 = .ok (.iconst 2, 1) := by decide +kernel
theorem dL_law_461 : decode cL_law 461 = .ok (.iadd, 1) := by decide +kernel
theorem dL_law_462 : decode cL_law 462 = .ok (.iaload, 1) := by decide +kernel
theorem dL_law_463 : decode cL_law 463 = .ok (.invokevirtual 57, 3) := by decide +kernel
theorem dL_law_466 : decode cL_law 466 = .ok (.aload_n 2, 1) := by decide +kernel
theorem dL_law_467 : decode cL_law 467 = .ok (.aload_n 0, 1) := by decide +kernel
theorem dL_law_468 : decode cL_law 468 = .ok (.iload_n 3, 1) := by decide +kernel
theorem dL_law_469 : decode cL_law 469 = .ok (.iconst 1, 1) := by decide +kernel
theorem dL_law_470 : decode cL_law 470 = .ok (.iadd, 1) := by decide +kernel
theorem dL_law_471 : decode cL_law 471 = .ok (.iaload, 1) := by decide +kernel
theorem dL_law_472 : decode cL_law 472 = .ok (.aload_n 0, 1) := by decide +kernel
theorem dL_law_473 : decode cL_law 473 = .ok (.iload_n 3, 1) := by decide +kernel
theorem dL_law_474 : decode cL_law 474 = .ok (.iconst 2, 1) := by decide +kernel
theorem dL_law_475 : decode cL_law 475 = .ok (.iadd, 1) := by decide +kernel
theorem dL_law_476 : decode cL_law 476 = .ok (.iaload, 1) := by decide +kernel
theorem dL_law_477 : decode cL_law 477 = .ok (.invokevirtual 60, 3) := by decide +kernel
theorem dL_law_480 : decode cL_law 480 = .ok (.if_icmp .eq 615, 3) := by decide +kernel
theorem wd_939 : (Jvm.Cond.methodLink "SilentSaleLaw" (61 : Nat) ({ cls := "SilentSale", name := "bell", desc := "(I)I" } : Jvm.MethodName)) ∈ tb_L := tb_in (i := 939) (by decide +kernel) (by decide +kernel)
theorem wd_940 : (Jvm.Cond.instanceMethod ({ cls := "SilentSale", name := "bell", desc := "(I)I" } : Jvm.MethodName)) ∈ tb_L := tb_in (i := 940) (by decide +kernel) (by decide +kernel)
theorem wd_941 : (Jvm.Cond.selects "SilentSale" ({ cls := "SilentSale", name := "bell", desc := "(I)I" } : Jvm.MethodName) ({ cls := "SilentSale", name := "bell", desc := "(I)I" } : Jvm.MethodName)) ∈ tb_L := tb_in (i := 941) (by decide +kernel) (by decide +kernel)
theorem wd_1680 : (Jvm.Cond.methodLink "SilentSaleLaw" (64 : Nat) ({ cls := "SilentSaleModel", name := "bell", desc := "(I)I" } : Jvm.MethodName)) ∈ tb_L := tb_in (i := 1680) (by decide +kernel) (by decide +kernel)
theorem wd_1681 : (Jvm.Cond.instanceMethod ({ cls := "SilentSaleModel", name := "bell", desc := "(I)I" } : Jvm.MethodName)) ∈ tb_L := tb_in (i := 1681) (by decide +kernel) (by decide +kernel)
theorem wd_1682 : (Jvm.Cond.selects "SilentSaleModel" ({ cls := "SilentSaleModel", name := "bell", desc := "(I)I" } : Jvm.MethodName) ({ cls := "SilentSaleModel", name := "bell", desc := "(I)I" } : Jvm.MethodName)) ∈ tb_L := tb_in (i := 1682) (by decide +kernel) (by decide +kernel)
theorem dL_law_485 : decode cL_law 485 = .ok (.aload_n 1, 1) := by decide +kernel
theorem dL_law_486 : decode cL_law 486 = .ok (.aload_n 0, 1) := by decide +kernel
theorem dL_law_487 : decode cL_law 487 = .ok (.iload_n 3, 1) := by decide +kernel
theorem dL_law_488 : decode cL_law 488 = .ok (.iconst 1, 1) := by decide +kernel
theorem dL_law_489 : decode cL_law 489 = .ok (.iadd, 1) := by decide +kernel
theorem dL_law_490 : decode cL_law 490 = .ok (.iaload, 1) := by decide +kernel
theorem dL_law_491 : decode cL_law 491 = .ok (.invokevirtual 61, 3) := by decide +kernel
theorem dL_law_494 : decode cL_law 494 = .ok (.aload_n 2, 1) := by decide +kernel
theorem dL_law_495 : decode cL_law 495 = .ok (.aload_n 0, 1) := by decide +kernel
theorem dL_law_496 : decode cL_law 496 = .ok (.iload_n 3, 1) := by decide +kernel
theorem dL_law_497 : decode cL_law 497 = .ok (.iconst 1, 1) := by decide +kernel
theorem dL_law_498 : decode cL_law 498 = .ok (.iadd, 1) := by decide +kernel
theorem dL_law_499 : decode cL_law 499 = .ok (.iaload, 1) := by decide +kernel
theorem dL_law_500 : decode cL_law 500 = .ok (.invokevirtual 64, 3) := by decide +kernel
theorem dL_law_503 : decode cL_law 503 = .ok (.if_icmp .eq 592, 3) := by decide +kernel
theorem wd_951 : (Jvm.Cond.methodLink "SilentSaleLaw" (65 : Nat) ({ cls := "SilentSale", name := "play", desc := "(III)I" } : Jvm.MethodName)) ∈ tb_L := tb_in (i := 951) (by decide +kernel) (by decide +kernel)
theorem wd_952 : (Jvm.Cond.instanceMethod ({ cls := "SilentSale", name := "play", desc := "(III)I" } : Jvm.MethodName)) ∈ tb_L := tb_in (i := 952) (by decide +kernel) (by decide +kernel)
theorem wd_953 : (Jvm.Cond.selects "SilentSale" ({ cls := "SilentSale", name := "play", desc := "(III)I" } : Jvm.MethodName) ({ cls := "SilentSale", name := "play", desc := "(III)I" } : Jvm.MethodName)) ∈ tb_L := tb_in (i := 953) (by decide +kernel) (by decide +kernel)
theorem wd_1692 : (Jvm.Cond.methodLink "SilentSaleLaw" (69 : Nat) ({ cls := "SilentSaleModel", name := "play", desc := "(III)I" } : Jvm.MethodName)) ∈ tb_L := tb_in (i := 1692) (by decide +kernel) (by decide +kernel)
theorem wd_1693 : (Jvm.Cond.instanceMethod ({ cls := "SilentSaleModel", name := "play", desc := "(III)I" } : Jvm.MethodName)) ∈ tb_L := tb_in (i := 1693) (by decide +kernel) (by decide +kernel)
theorem wd_1694 : (Jvm.Cond.selects "SilentSaleModel" ({ cls := "SilentSaleModel", name := "play", desc := "(III)I" } : Jvm.MethodName) ({ cls := "SilentSaleModel", name := "play", desc := "(III)I" } : Jvm.MethodName)) ∈ tb_L := tb_in (i := 1694) (by decide +kernel) (by decide +kernel)
theorem dL_law_508 : decode cL_law 508 = .ok (.aload_n 1, 1) := by decide +kernel
theorem dL_law_509 : decode cL_law 509 = .ok (.aload_n 0, 1) := by decide +kernel
theorem dL_law_510 : decode cL_law 510 = .ok (.iload_n 3, 1) := by decide +kernel
theorem dL_law_511 : decode cL_law 511 = .ok (.iconst 1, 1) := by decide +kernel
theorem dL_law_512 : decode cL_law 512 = .ok (.iadd, 1) := by decide +kernel
theorem dL_law_513 : decode cL_law 513 = .ok (.iaload, 1) := by decide +kernel
theorem dL_law_514 : decode cL_law 514 = .ok (.aload_n 0, 1) := by decide +kernel
theorem dL_law_515 : decode cL_law 515 = .ok (.iload_n 3, 1) := by decide +kernel
theorem dL_law_516 : decode cL_law 516 = .ok (.iconst 2, 1) := by decide +kernel
theorem dL_law_517 : decode cL_law 517 = .ok (.iadd, 1) := by decide +kernel
theorem dL_law_518 : decode cL_law 518 = .ok (.iaload, 1) := by decide +kernel
theorem dL_law_519 : decode cL_law 519 = .ok (.aload_n 0, 1) := by decide +kernel
theorem dL_law_520 : decode cL_law 520 = .ok (.iload_n 3, 1) := by decide +kernel
theorem dL_law_521 : decode cL_law 521 = .ok (.iconst 3, 1) := by decide +kernel
theorem dL_law_522 : decode cL_law 522 = .ok (.iadd, 1) := by decide +kernel
theorem dL_law_523 : decode cL_law 523 = .ok (.iaload, 1) := by decide +kernel
theorem dL_law_524 : decode cL_law 524 = .ok (.invokevirtual 65, 3) := by decide +kernel
theorem dL_law_527 : decode cL_law 527 = .ok (.aload_n 2, 1) := by decide +kernel
theorem dL_law_528 : decode cL_law 528 = .ok (.aload_n 0, 1) := by decide +kernel
theorem dL_law_529 : decode cL_law 529 = .ok (.iload_n 3, 1) := by decide +kernel
theorem dL_law_530 : decode cL_law 530 = .ok (.iconst 1, 1) := by decide +kernel
theorem dL_law_531 : decode cL_law 531 = .ok (.iadd, 1) := by decide +kernel
theorem dL_law_532 : decode cL_law 532 = .ok (.iaload, 1) := by decide +kernel
theorem dL_law_533 : decode cL_law 533 = .ok (.aload_n 0, 1) := by decide +kernel
theorem dL_law_534 : decode cL_law 534 = .ok (.iload_n 3, 1) := by decide +kernel
theorem dL_law_535 : decode cL_law 535 = .ok (.iconst 2, 1) := by decide +kernel
theorem dL_law_536 : decode cL_law 536 = .ok (.iadd, 1) := by decide +kernel
theorem dL_law_537 : decode cL_law 537 = .ok (.iaload, 1) := by decide +kernel
theorem dL_law_538 : decode cL_law 538 = .ok (.aload_n 0, 1) := by decide +kernel
theorem dL_law_539 : decode cL_law 539 = .ok (.iload_n 3, 1) := by decide +kernel
theorem dL_law_540 : decode cL_law 540 = .ok (.iconst 3, 1) := by decide +kernel
theorem dL_law_541 : decode cL_law 541 = .ok (.iadd, 1) := by decide +kernel
theorem dL_law_542 : decode cL_law 542 = .ok (.iaload, 1) := by decide +kernel
theorem dL_law_543 : decode cL_law 543 = .ok (.invokevirtual 69, 3) := by decide +kernel
theorem dL_law_546 : decode cL_law 546 = .ok (.if_icmp .eq 549, 3) := by decide +kernel
theorem wd_964 : (Jvm.Cond.methodLink "SilentSaleLaw" (70 : Nat) ({ cls := "SilentSale", name := "fire", desc := "(I)I" } : Jvm.MethodName)) ∈ tb_L := tb_in (i := 964) (by decide +kernel) (by decide +kernel)
theorem wd_965 : (Jvm.Cond.instanceMethod ({ cls := "SilentSale", name := "fire", desc := "(I)I" } : Jvm.MethodName)) ∈ tb_L := tb_in (i := 965) (by decide +kernel) (by decide +kernel)
theorem wd_966 : (Jvm.Cond.selects "SilentSale" ({ cls := "SilentSale", name := "fire", desc := "(I)I" } : Jvm.MethodName) ({ cls := "SilentSale", name := "fire", desc := "(I)I" } : Jvm.MethodName)) ∈ tb_L := tb_in (i := 966) (by decide +kernel) (by decide +kernel)
theorem wd_1712 : (Jvm.Cond.methodLink "SilentSaleLaw" (73 : Nat) ({ cls := "SilentSaleModel", name := "fire", desc := "(I)I" } : Jvm.MethodName)) ∈ tb_L := tb_in (i := 1712) (by decide +kernel) (by decide +kernel)
theorem wd_1713 : (Jvm.Cond.instanceMethod ({ cls := "SilentSaleModel", name := "fire", desc := "(I)I" } : Jvm.MethodName)) ∈ tb_L := tb_in (i := 1713) (by decide +kernel) (by decide +kernel)
theorem wd_1714 : (Jvm.Cond.selects "SilentSaleModel" ({ cls := "SilentSaleModel", name := "fire", desc := "(I)I" } : Jvm.MethodName) ({ cls := "SilentSaleModel", name := "fire", desc := "(I)I" } : Jvm.MethodName)) ∈ tb_L := tb_in (i := 1714) (by decide +kernel) (by decide +kernel)
theorem dL_law_551 : decode cL_law 551 = .ok (.aload_n 1, 1) := by decide +kernel
theorem dL_law_552 : decode cL_law 552 = .ok (.aload_n 0, 1) := by decide +kernel
theorem dL_law_553 : decode cL_law 553 = .ok (.iload_n 3, 1) := by decide +kernel
theorem dL_law_554 : decode cL_law 554 = .ok (.iconst 1, 1) := by decide +kernel
theorem dL_law_555 : decode cL_law 555 = .ok (.iadd, 1) := by decide +kernel
theorem dL_law_556 : decode cL_law 556 = .ok (.iaload, 1) := by decide +kernel
theorem dL_law_557 : decode cL_law 557 = .ok (.invokevirtual 70, 3) := by decide +kernel
theorem dL_law_560 : decode cL_law 560 = .ok (.aload_n 2, 1) := by decide +kernel
theorem dL_law_561 : decode cL_law 561 = .ok (.aload_n 0, 1) := by decide +kernel
theorem dL_law_562 : decode cL_law 562 = .ok (.iload_n 3, 1) := by decide +kernel
theorem dL_law_563 : decode cL_law 563 = .ok (.iconst 1, 1) := by decide +kernel
theorem dL_law_564 : decode cL_law 564 = .ok (.iadd, 1) := by decide +kernel
theorem dL_law_565 : decode cL_law 565 = .ok (.iaload, 1) := by decide +kernel
theorem dL_law_566 : decode cL_law 566 = .ok (.invokevirtual 73, 3) := by decide +kernel
theorem dL_law_569 : decode cL_law 569 = .ok (.if_icmp .eq 526, 3) := by decide +kernel
theorem wd_972 : (Jvm.Cond.methodLink "SilentSaleLaw" (74 : Nat) ({ cls := "SilentSale", name := "undo", desc := "()I" } : Jvm.MethodName)) ∈ tb_L := tb_in (i := 972) (by decide +kernel) (by decide +kernel)
theorem wd_973 : (Jvm.Cond.instanceMethod ({ cls := "SilentSale", name := "undo", desc := "()I" } : Jvm.MethodName)) ∈ tb_L := tb_in (i := 973) (by decide +kernel) (by decide +kernel)
theorem wd_974 : (Jvm.Cond.selects "SilentSale" ({ cls := "SilentSale", name := "undo", desc := "()I" } : Jvm.MethodName) ({ cls := "SilentSale", name := "undo", desc := "()I" } : Jvm.MethodName)) ∈ tb_L := tb_in (i := 974) (by decide +kernel) (by decide +kernel)
theorem wd_1611 : (Jvm.Cond.methodLink "SilentSaleLaw" (77 : Nat) ({ cls := "SilentSaleModel", name := "undo", desc := "()I" } : Jvm.MethodName)) ∈ tb_L := tb_in (i := 1611) (by decide +kernel) (by decide +kernel)
theorem wd_1612 : (Jvm.Cond.instanceMethod ({ cls := "SilentSaleModel", name := "undo", desc := "()I" } : Jvm.MethodName)) ∈ tb_L := tb_in (i := 1612) (by decide +kernel) (by decide +kernel)
theorem wd_1613 : (Jvm.Cond.selects "SilentSaleModel" ({ cls := "SilentSaleModel", name := "undo", desc := "()I" } : Jvm.MethodName) ({ cls := "SilentSaleModel", name := "undo", desc := "()I" } : Jvm.MethodName)) ∈ tb_L := tb_in (i := 1613) (by decide +kernel) (by decide +kernel)
theorem dL_law_574 : decode cL_law 574 = .ok (.aload_n 1, 1) := by decide +kernel
theorem dL_law_575 : decode cL_law 575 = .ok (.invokevirtual 74, 3) := by decide +kernel
theorem dL_law_578 : decode cL_law 578 = .ok (.aload_n 2, 1) := by decide +kernel
theorem dL_law_579 : decode cL_law 579 = .ok (.invokevirtual 77, 3) := by decide +kernel
theorem dL_law_582 : decode cL_law 582 = .ok (.if_icmp .eq 513, 3) := by decide +kernel
theorem wd_980 : (Jvm.Cond.methodLink "SilentSaleLaw" (78 : Nat) ({ cls := "SilentSale", name := "ahead", desc := "(III)I" } : Jvm.MethodName)) ∈ tb_L := tb_in (i := 980) (by decide +kernel) (by decide +kernel)
theorem wd_981 : (Jvm.Cond.instanceMethod ({ cls := "SilentSale", name := "ahead", desc := "(III)I" } : Jvm.MethodName)) ∈ tb_L := tb_in (i := 981) (by decide +kernel) (by decide +kernel)
theorem wd_982 : (Jvm.Cond.selects "SilentSale" ({ cls := "SilentSale", name := "ahead", desc := "(III)I" } : Jvm.MethodName) ({ cls := "SilentSale", name := "ahead", desc := "(III)I" } : Jvm.MethodName)) ∈ tb_L := tb_in (i := 982) (by decide +kernel) (by decide +kernel)
theorem wd_1716 : (Jvm.Cond.methodLink "SilentSaleLaw" (81 : Nat) ({ cls := "SilentSaleModel", name := "ahead", desc := "(III)I" } : Jvm.MethodName)) ∈ tb_L := tb_in (i := 1716) (by decide +kernel) (by decide +kernel)
theorem wd_1717 : (Jvm.Cond.instanceMethod ({ cls := "SilentSaleModel", name := "ahead", desc := "(III)I" } : Jvm.MethodName)) ∈ tb_L := tb_in (i := 1717) (by decide +kernel) (by decide +kernel)
theorem wd_1718 : (Jvm.Cond.selects "SilentSaleModel" ({ cls := "SilentSaleModel", name := "ahead", desc := "(III)I" } : Jvm.MethodName) ({ cls := "SilentSaleModel", name := "ahead", desc := "(III)I" } : Jvm.MethodName)) ∈ tb_L := tb_in (i := 1718) (by decide +kernel) (by decide +kernel)
theorem dL_law_587 : decode cL_law 587 = .ok (.aload_n 1, 1) := by decide +kernel
theorem dL_law_588 : decode cL_law 588 = .ok (.aload_n 0, 1) := by decide +kernel
theorem dL_law_589 : decode cL_law 589 = .ok (.iload_n 3, 1) := by decide +kernel
theorem dL_law_590 : decode cL_law 590 = .ok (.iconst 1, 1) := by decide +kernel
theorem dL_law_591 : decode cL_law 591 = .ok (.iadd, 1) := by decide +kernel
theorem dL_law_592 : decode cL_law 592 = .ok (.iaload, 1) := by decide +kernel
theorem dL_law_593 : decode cL_law 593 = .ok (.aload_n 0, 1) := by decide +kernel
theorem dL_law_594 : decode cL_law 594 = .ok (.iload_n 3, 1) := by decide +kernel
theorem dL_law_595 : decode cL_law 595 = .ok (.iconst 2, 1) := by decide +kernel
theorem dL_law_596 : decode cL_law 596 = .ok (.iadd, 1) := by decide +kernel
theorem dL_law_597 : decode cL_law 597 = .ok (.iaload, 1) := by decide +kernel
theorem dL_law_598 : decode cL_law 598 = .ok (.aload_n 0, 1) := by decide +kernel
theorem dL_law_599 : decode cL_law 599 = .ok (.iload_n 3, 1) := by decide +kernel
theorem dL_law_600 : decode cL_law 600 = .ok (.iconst 3, 1) := by decide +kernel
theorem dL_law_601 : decode cL_law 601 = .ok (.iadd, 1) := by decide +kernel
theorem dL_law_602 : decode cL_law 602 = .ok (.iaload, 1) := by decide +kernel
theorem dL_law_603 : decode cL_law 603 = .ok (.invokevirtual 78, 3) := by decide +kernel
theorem dL_law_606 : decode cL_law 606 = .ok (.aload_n 2, 1) := by decide +kernel
theorem dL_law_607 : decode cL_law 607 = .ok (.aload_n 0, 1) := by decide +kernel
theorem dL_law_608 : decode cL_law 608 = .ok (.iload_n 3, 1) := by decide +kernel
theorem dL_law_609 : decode cL_law 609 = .ok (.iconst 1, 1) := by decide +kernel
theorem dL_law_610 : decode cL_law 610 = .ok (.iadd, 1) := by decide +kernel
theorem dL_law_611 : decode cL_law 611 = .ok (.iaload, 1) := by decide +kernel
theorem dL_law_612 : decode cL_law 612 = .ok (.aload_n 0, 1) := by decide +kernel
theorem dL_law_613 : decode cL_law 613 = .ok (.iload_n 3, 1) := by decide +kernel
theorem dL_law_614 : decode cL_law 614 = .ok (.iconst 2, 1) := by decide +kernel
theorem dL_law_615 : decode cL_law 615 = .ok (.iadd, 1) := by decide +kernel
theorem dL_law_616 : decode cL_law 616 = .ok (.iaload, 1) := by decide +kernel
theorem dL_law_617 : decode cL_law 617 = .ok (.aload_n 0, 1) := by decide +kernel
theorem dL_law_618 : decode cL_law 618 = .ok (.iload_n 3, 1) := by decide +kernel
theorem dL_law_619 : decode cL_law 619 = .ok (.iconst 3, 1) := by decide +kernel
theorem dL_law_620 : decode cL_law 620 = .ok (.iadd, 1) := by decide +kernel
theorem dL_law_621 : decode cL_law 621 = .ok (.iaload, 1) := by decide +kernel
theorem dL_law_622 : decode cL_law 622 = .ok (.invokevirtual 81, 3) := by decide +kernel
theorem dL_law_625 : decode cL_law 625 = .ok (.if_icmp .eq 470, 3) := by decide +kernel
set_option maxHeartbeats 4000000 in
set_option maxRecDepth 100000 in
theorem lw_c8 {p : Program} {l : Launch} {e : Env} {s : State} {m : MethodId} {below : List Frame} {meth : Method} {c : Code} {b : Nat} {xs : Nat → Int32} (C0 : lw_At p s m meth c b 6 xs) {G : gg_T} {K V : Nat → Nat} {A : Nat → Prop} (hA : ∀ q : Nat, s.heap.size ≤ q → A q) (hA2 : ∀ q : Nat, A q → s.heap.size ≤ q) (hK : gg_K G s) (hX : sx_G K V A s s.heap) {qx qm : Nat} {ax am : Nat → Nat} {fs fo : Nat → Int32} {fr fi : Nat → Option Nat} (pr0 : fr 0 = some (ax 37)) (pi0 : fi 0 = some (ax 43)) (pi1 : fi 1 = some (ax 64)) (pi2 : fi 2 = some (ax 85)) (pi3 : fi 3 = some (ax 106)) {H : Heap} {locs : List Loc} {ls : Array Slot} (hP : va_P (gg_D G) classes (lw_W G qx qm ax am fs fo fr fi) H) (hD : va_D A (lw_W G qx qm ax am fs fo fr fi)) (hS : va_S A s.heap H locs) (hl : lv_has ls 4 [(3, .int 0), (2, .ref qm), (1, .ref qx), (0, .ref b)]) : W p l e room_1 s m #[Value.ref b] below meth c H locs 430 10514 (lw_Z below #[Value.ref b] s) (F0 m 406 ls []) := by
  obtain ⟨hx, hb, hr, hml, hown, hts, hX_, hbl, hlocks, hgv⟩ := id C0
  have ht : ∀ w ∈ tb_L, w.before #[Value.ref b] s = true := fun w h => hts w (List.mem_filter.mp h).1
  have hbA : ¬ A b := fun h => Nat.not_le.mpr hbl (hA2 b h)
  have hP := hP.sub (ws' := [(qx, .inr (11, [.ref (ax 0), .ref (ax 1), .ref (ax 2), .ref (ax 3), .ref (ax 4), .ref (ax 5), .ref (ax 6), .ref (ax 7), .ref (ax 8), .ref (ax 9), .ref (ax 10), .ref (ax 11), .ref (ax 12), .int 0, .int (-1), .int 0])), ((ax 1), .inr (9, [.int 0, .int 0, .int 0, .int 0, .ref (ax 14), .ref (ax 15), .ref (ax 16), .ref (ax 17), .ref (ax 18)])), (qm, .inr (12, [.ref (am 0), .int 0, .int 0, .ref (am 1), .ref (am 2), .ref (am 3), .ref (am 4), .ref (am 5), .int 0, .int 0, .int 0, .int 0, .int 0, .int 0, .int 0, .ref (am 6), .int 0, .ref (am 7), .int 0, .ref (am 8), .ref (am 9), .int (-1), .int 0, .int 0, .int (-1), .int 0, .ref (am 10), .int 0, .ref (am 11), .ref (am 12), .ref (am 13), .ref (am 14), .long 0, .ref (am 15), .ref (am 16), .ref (am 17), .ref (am 18)])), ((am 9), .inl (G.2.2 0, 110, .inl (fun _ => 0)))]) [0, 3, 113, 118] rfl
  have hD := hD.sub (ws' := [(qx, .inr (11, [.ref (ax 0), .ref (ax 1), .ref (ax 2), .ref (ax 3), .ref (ax 4), .ref (ax 5), .ref (ax 6), .ref (ax 7), .ref (ax 8), .ref (ax 9), .ref (ax 10), .ref (ax 11), .ref (ax 12), .int 0, .int (-1), .int 0])), ((ax 1), .inr (9, [.int 0, .int 0, .int 0, .int 0, .ref (ax 14), .ref (ax 15), .ref (ax 16), .ref (ax 17), .ref (ax 18)])), (qm, .inr (12, [.ref (am 0), .int 0, .int 0, .ref (am 1), .ref (am 2), .ref (am 3), .ref (am 4), .ref (am 5), .int 0, .int 0, .int 0, .int 0, .int 0, .int 0, .int 0, .ref (am 6), .int 0, .ref (am 7), .int 0, .ref (am 8), .ref (am 9), .int (-1), .int 0, .int 0, .int (-1), .int 0, .ref (am 10), .int 0, .ref (am 11), .ref (am 12), .ref (am 13), .ref (am 14), .long 0, .ref (am 15), .ref (am 16), .ref (am 17), .ref (am 18)])), ((am 9), .inl (G.2.2 0, 110, .inl (fun _ => 0)))]) [0, 3, 113, 118] (by decide) rfl
  refine lv_aload_n hx hb dL_law_406 rfl (lv_at hl 2 rfl) ?_
  refine lv_aload_n hx hb dL_law_407 rfl (lv_at hl 3 rfl) ?_
  refine lv_iload_n hx hb dL_law_408 rfl (lv_at hl 0 rfl) ?_
  refine lv_iconst (v := 1) hx hb dL_law_409 (by decide) ?_
  refine gq_iadd hx hb 1 (by decide +kernel) dL_law_410 ?_
  refine va_sld hx hb hX_ hbl hbA hS (by unfold vp_in; decide +kernel) dL_law_411 ?_
  refine lv_aload_n hx hb dL_law_412 rfl (lv_at hl 3 rfl) ?_
  refine lv_iload_n hx hb dL_law_413 rfl (lv_at hl 0 rfl) ?_
  refine lv_iconst (v := 2) hx hb dL_law_414 (by decide) ?_
  refine gq_iadd hx hb 2 (by decide +kernel) dL_law_415 ?_
  refine va_sld hx hb hX_ hbl hbA hS (by unfold vp_in; decide +kernel) dL_law_416 ?_
  have hPc := hP.sub (ws' := [(qx, .inr (11, [.ref (ax 0), .ref (ax 1), .ref (ax 2), .ref (ax 3), .ref (ax 4), .ref (ax 5), .ref (ax 6), .ref (ax 7), .ref (ax 8), .ref (ax 9), .ref (ax 10), .ref (ax 11), .ref (ax 12), .int 0, .int (-1), .int 0])), ((ax 1), .inr (9, [.int 0, .int 0, .int 0, .int 0, .ref (ax 14), .ref (ax 15), .ref (ax 16), .ref (ax 17), .ref (ax 18)]))]) [0, 1] rfl
  have hDc := hD.sub (ws' := [(qx, .inr (11, [.ref (ax 0), .ref (ax 1), .ref (ax 2), .ref (ax 3), .ref (ax 4), .ref (ax 5), .ref (ax 6), .ref (ax 7), .ref (ax 8), .ref (ax 9), .ref (ax 10), .ref (ax 11), .ref (ax 12), .int 0, .int (-1), .int 0])), ((ax 1), .inr (9, [.int 0, .int 0, .int 0, .int 0, .ref (ax 14), .ref (ax 15), .ref (ax 16), .ref (ax 17), .ref (ax 18)]))]) [0, 1] (by decide) rfl
  refine gq_callI (wr := [(qm, .inr (12, [.ref (am 0), .int 0, .int 0, .ref (am 1), .ref (am 2), .ref (am 3), .ref (am 4), .ref (am 5), .int 0, .int 0, .int 0, .int 0, .int 0, .int 0, .int 0, .ref (am 6), .int 0, .ref (am 7), .int 0, .ref (am 8), .ref (am 9), .int (-1), .int 0, .int 0, .int (-1), .int 0, .ref (am 10), .int 0, .ref (am 11), .ref (am 12), .ref (am 13), .ref (am 14), .long 0, .ref (am 15), .ref (am 16), .ref (am 17), .ref (am 18)])), ((am 9), .inl (G.2.2 0, 110, .inl (fun _ => 0)))]) (va_runV (As := [.int (xs (Int32.toNatClampNeg 1)), .int (xs (Int32.toNatClampNeg 2))]) (rest := []) ⟨hx, hb, hml, hown, ht⟩ (c_S_trick l G H.size qx ax (xs (Int32.toNatClampNeg 1)) (xs (Int32.toNatClampNeg 2))) (cwV 2 ht (ts_gV wd_833 wd_834 wd_835 wd_122 wd_836) rfl rfl rfl (by decide +kernel) ⟨Nat.le_of_ble_eq_true rfl, Nat.le_of_ble_eq_true rfl⟩) (gc_preV (ci := 11) (q0 := 0) hK hPc hDc rfl rfl) rfl rfl hl.1 rfl (lv_room (Nat.le_of_ble_eq_true rfl)) dL_law_417 ⟨Nat.le_of_ble_eq_true rfl, Nat.le_of_ble_eq_true rfl⟩) hP hD hS hA [0, 1] [2, 3] rfl rfl (by decide) (by decide) (fun r u H locs hw hP hD hS => ?_)
  have hw : r = (-1) := hw
  subst hw
  have hP : va_P (gg_D G) classes [(qm, .inr (12, [.ref (am 0), .int 0, .int 0, .ref (am 1), .ref (am 2), .ref (am 3), .ref (am 4), .ref (am 5), .int 0, .int 0, .int 0, .int 0, .int 0, .int 0, .int 0, .ref (am 6), .int 0, .ref (am 7), .int 0, .ref (am 8), .ref (am 9), .int (-1), .int 0, .int 0, .int (-1), .int 0, .ref (am 10), .int 0, .ref (am 11), .ref (am 12), .ref (am 13), .ref (am 14), .long 0, .ref (am 15), .ref (am 16), .ref (am 17), .ref (am 18)])), ((am 9), .inl (G.2.2 0, 110, .inl (fun _ => 0)))] H := hP
  have hD : va_D A [(qm, .inr (12, [.ref (am 0), .int 0, .int 0, .ref (am 1), .ref (am 2), .ref (am 3), .ref (am 4), .ref (am 5), .int 0, .int 0, .int 0, .int 0, .int 0, .int 0, .int 0, .ref (am 6), .int 0, .ref (am 7), .int 0, .ref (am 8), .ref (am 9), .int (-1), .int 0, .int 0, .int (-1), .int 0, .ref (am 10), .int 0, .ref (am 11), .ref (am 12), .ref (am 13), .ref (am 14), .long 0, .ref (am 15), .ref (am 16), .ref (am 17), .ref (am 18)])), ((am 9), .inl (G.2.2 0, 110, .inl (fun _ => 0)))] := hD
  refine lv_aload_n hx hb dL_law_420 rfl (lv_at hl 1 rfl) ?_
  refine lv_aload_n hx hb dL_law_421 rfl (lv_at hl 3 rfl) ?_
  refine lv_iload_n hx hb dL_law_422 rfl (lv_at hl 0 rfl) ?_
  refine lv_iconst (v := 1) hx hb dL_law_423 (by decide) ?_
  refine gq_iadd hx hb 1 (by decide +kernel) dL_law_424 ?_
  refine va_sld hx hb hX_ hbl hbA hS (by unfold vp_in; decide +kernel) dL_law_425 ?_
  refine lv_aload_n hx hb dL_law_426 rfl (lv_at hl 3 rfl) ?_
  refine lv_iload_n hx hb dL_law_427 rfl (lv_at hl 0 rfl) ?_
  refine lv_iconst (v := 2) hx hb dL_law_428 (by decide) ?_
  refine gq_iadd hx hb 2 (by decide +kernel) dL_law_429 ?_
  refine va_sld hx hb hX_ hbl hbA hS (by unfold vp_in; decide +kernel) dL_law_430 ?_
  have hPc := hP.sub (ws' := [(qm, .inr (12, [.ref (am 0), .int 0, .int 0, .ref (am 1), .ref (am 2), .ref (am 3), .ref (am 4), .ref (am 5), .int 0, .int 0, .int 0, .int 0, .int 0, .int 0, .int 0, .ref (am 6), .int 0, .ref (am 7), .int 0, .ref (am 8), .ref (am 9), .int (-1), .int 0, .int 0, .int (-1), .int 0, .ref (am 10), .int 0, .ref (am 11), .ref (am 12), .ref (am 13), .ref (am 14), .long 0, .ref (am 15), .ref (am 16), .ref (am 17), .ref (am 18)])), ((am 9), .inl (G.2.2 0, 110, .inl (fun _ => 0)))]) [0, 1] rfl
  have hDc := hD.sub (ws' := [(qm, .inr (12, [.ref (am 0), .int 0, .int 0, .ref (am 1), .ref (am 2), .ref (am 3), .ref (am 4), .ref (am 5), .int 0, .int 0, .int 0, .int 0, .int 0, .int 0, .int 0, .ref (am 6), .int 0, .ref (am 7), .int 0, .ref (am 8), .ref (am 9), .int (-1), .int 0, .int 0, .int (-1), .int 0, .ref (am 10), .int 0, .ref (am 11), .ref (am 12), .ref (am 13), .ref (am 14), .long 0, .ref (am 15), .ref (am 16), .ref (am 17), .ref (am 18)])), ((am 9), .inl (G.2.2 0, 110, .inl (fun _ => 0)))]) [0, 1] (by decide) rfl
  refine gq_callI (wr := []) (va_runV (As := [.int (xs (Int32.toNatClampNeg 1)), .int (xs (Int32.toNatClampNeg 2))]) (rest := [.int (-1)]) ⟨hx, hb, hml, hown, ht⟩ (c_M_trick l G H.size qm am (xs (Int32.toNatClampNeg 1)) (xs (Int32.toNatClampNeg 2))) (cwV 2 ht (ts_gV wd_1603 wd_1604 wd_1605 wd_134 wd_1606) rfl rfl rfl (by decide +kernel) ⟨Nat.le_of_ble_eq_true rfl, Nat.le_of_ble_eq_true rfl⟩) (gc_preV (ci := 12) (q0 := 0) hK hPc hDc rfl rfl) rfl rfl hl.1 rfl (lv_room (Nat.le_of_ble_eq_true rfl)) dL_law_431 ⟨Nat.le_of_ble_eq_true rfl, Nat.le_of_ble_eq_true rfl⟩) hP hD hS hA [0, 1] [] rfl rfl (by decide) (by decide) (fun r u H locs hw hP hD hS => ?_)
  have hw : r = (-1) := hw
  subst hw
  have hP : va_P (gg_D G) classes [] H := hP
  have hD : va_D A [] := hD
  refine lv_icmp_eq (tgt := 1095) hx hb dL_law_434 (by decide) (fun _ => ?_) (fun c0 => absurd (by decide +kernel) c0)
  refine lv_iinc (v := 6) (lv' := [(3, .int 6), (2, .ref qm), (1, .ref qx), (0, .ref b)]) hx hb dL_law_1095 hl (k := 0) rfl (by decide +kernel) (by decide) rfl (fun ls hl => ?_)
  refine lv_goto (tgt := 18) hx hb dL_law_1098 (by decide) ?_
  refine lv_iload_n hx hb dL_law_18 rfl (lv_at hl 0 rfl) ?_
  refine lv_aload_n hx hb dL_law_19 rfl (lv_at hl 3 rfl) ?_
  refine va_slen hx hb hX_ hbl hbA hS dL_law_20 ?_
  refine W.eq (g2 := F0 m 21 ls [.int 6, .int 6]) rfl ?_
  refine lv_bipush (v := 6) hx hb dL_law_21 (by decide +kernel) ?_
  refine gq_isub hx hb 0 (by decide +kernel) dL_law_23 ?_
  refine lv_icmp_gt (tgt := 1101) hx hb dL_law_24 (by decide) (fun _ => ?_) (fun c0 => absurd (by decide +kernel) c0)
  refine lv_iconst (v := 1) hx hb dL_law_1101 (by decide) ?_
  refine va_forget (fun q hq => hA2 _ (hS.2.2 q hq)) ?_
  refine W.widen (k := 600000) (n := 7302249) (Nat.le_of_ble_eq_true rfl) (Nat.le_of_ble_eq_true rfl) ?_
  exact lw_ret hx hb hr hlocks dL_law_1102
set_option maxHeartbeats 4000000 in
set_option maxRecDepth 100000 in
theorem lw_c9 {p : Program} {l : Launch} {e : Env} {s : State} {m : MethodId} {below : List Frame} {meth : Method} {c : Code} {b : Nat} {xs : Nat → Int32} (C0 : lw_At p s m meth c b 6 xs) {G : gg_T} {K V : Nat → Nat} {A : Nat → Prop} (hA : ∀ q : Nat, s.heap.size ≤ q → A q) (hA2 : ∀ q : Nat, A q → s.heap.size ≤ q) (hK : gg_K G s) (hX : sx_G K V A s s.heap) {qx qm : Nat} {ax am : Nat → Nat} {fs fo : Nat → Int32} {fr fi : Nat → Option Nat} (pr0 : fr 0 = some (ax 37)) (pi0 : fi 0 = some (ax 43)) (pi1 : fi 1 = some (ax 64)) (pi2 : fi 2 = some (ax 85)) (pi3 : fi 3 = some (ax 106)) {H : Heap} {locs : List Loc} {ls : Array Slot} (hP : va_P (gg_D G) classes (lw_W G qx qm ax am fs fo fr fi) H) (hD : va_D A (lw_W G qx qm ax am fs fo fr fi)) (hS : va_S A s.heap H locs) (hl : lv_has ls 4 [(3, .int 0), (2, .ref qm), (1, .ref qx), (0, .ref b)]) : W p l e room_1 s m #[Value.ref b] below meth c H locs 430 10514 (lw_Z below #[Value.ref b] s) (F0 m 439 ls []) := by
  obtain ⟨hx, hb, hr, hml, hown, hts, hX_, hbl, hlocks, hgv⟩ := id C0
  have ht : ∀ w ∈ tb_L, w.before #[Value.ref b] s = true := fun w h => hts w (List.mem_filter.mp h).1
  have hbA : ¬ A b := fun h => Nat.not_le.mpr hbl (hA2 b h)
  have hP := hP.sub (ws' := [(qx, .inr (11, [.ref (ax 0), .ref (ax 1), .ref (ax 2), .ref (ax 3), .ref (ax 4), .ref (ax 5), .ref (ax 6), .ref (ax 7), .ref (ax 8), .ref (ax 9), .ref (ax 10), .ref (ax 11), .ref (ax 12), .int 0, .int (-1), .int 0])), ((ax 3), .inr (7, [.ref (ax 24), .ref (ax 25), .ref (ax 26), .ref (ax 27), .ref (ax 28), .ref (ax 29), .ref (ax 30), .ref (ax 31), .ref (ax 32), .int 0])), ((ax 28), .inl (G.2.2 0, 3, .inl (fun _ => 0))), (qm, .inr (12, [.ref (am 0), .int 0, .int 0, .ref (am 1), .ref (am 2), .ref (am 3), .ref (am 4), .ref (am 5), .int 0, .int 0, .int 0, .int 0, .int 0, .int 0, .int 0, .ref (am 6), .int 0, .ref (am 7), .int 0, .ref (am 8), .ref (am 9), .int (-1), .int 0, .int 0, .int (-1), .int 0, .ref (am 10), .int 0, .ref (am 11), .ref (am 12), .ref (am 13), .ref (am 14), .long 0, .ref (am 15), .ref (am 16), .ref (am 17), .ref (am 18)])), ((am 9), .inl (G.2.2 0, 110, .inl (fun _ => 0)))]) [0, 11, 16, 113, 118] rfl
  have hD := hD.sub (ws' := [(qx, .inr (11, [.ref (ax 0), .ref (ax 1), .ref (ax 2), .ref (ax 3), .ref (ax 4), .ref (ax 5), .ref (ax 6), .ref (ax 7), .ref (ax 8), .ref (ax 9), .ref (ax 10), .ref (ax 11), .ref (ax 12), .int 0, .int (-1), .int 0])), ((ax 3), .inr (7, [.ref (ax 24), .ref (ax 25), .ref (ax 26), .ref (ax 27), .ref (ax 28), .ref (ax 29), .ref (ax 30), .ref (ax 31), .ref (ax 32), .int 0])), ((ax 28), .inl (G.2.2 0, 3, .inl (fun _ => 0))), (qm, .inr (12, [.ref (am 0), .int 0, .int 0, .ref (am 1), .ref (am 2), .ref (am 3), .ref (am 4), .ref (am 5), .int 0, .int 0, .int 0, .int 0, .int 0, .int 0, .int 0, .ref (am 6), .int 0, .ref (am 7), .int 0, .ref (am 8), .ref (am 9), .int (-1), .int 0, .int 0, .int (-1), .int 0, .ref (am 10), .int 0, .ref (am 11), .ref (am 12), .ref (am 13), .ref (am 14), .long 0, .ref (am 15), .ref (am 16), .ref (am 17), .ref (am 18)])), ((am 9), .inl (G.2.2 0, 110, .inl (fun _ => 0)))]) [0, 11, 16, 113, 118] (by decide) rfl
  refine lv_aload_n hx hb dL_law_439 rfl (lv_at hl 2 rfl) ?_
  have hPc := hP.sub (ws' := [(qx, .inr (11, [.ref (ax 0), .ref (ax 1), .ref (ax 2), .ref (ax 3), .ref (ax 4), .ref (ax 5), .ref (ax 6), .ref (ax 7), .ref (ax 8), .ref (ax 9), .ref (ax 10), .ref (ax 11), .ref (ax 12), .int 0, .int (-1), .int 0])), ((ax 3), .inr (7, [.ref (ax 24), .ref (ax 25), .ref (ax 26), .ref (ax 27), .ref (ax 28), .ref (ax 29), .ref (ax 30), .ref (ax 31), .ref (ax 32), .int 0])), ((ax 28), .inl (G.2.2 0, 3, .inl (fun _ => 0)))]) [0, 1, 2] rfl
  have hDc := hD.sub (ws' := [(qx, .inr (11, [.ref (ax 0), .ref (ax 1), .ref (ax 2), .ref (ax 3), .ref (ax 4), .ref (ax 5), .ref (ax 6), .ref (ax 7), .ref (ax 8), .ref (ax 9), .ref (ax 10), .ref (ax 11), .ref (ax 12), .int 0, .int (-1), .int 0])), ((ax 3), .inr (7, [.ref (ax 24), .ref (ax 25), .ref (ax 26), .ref (ax 27), .ref (ax 28), .ref (ax 29), .ref (ax 30), .ref (ax 31), .ref (ax 32), .int 0])), ((ax 28), .inl (G.2.2 0, 3, .inl (fun _ => 0)))]) [0, 1, 2] (by decide) rfl
  refine gq_callI (wr := [(qm, .inr (12, [.ref (am 0), .int 0, .int 0, .ref (am 1), .ref (am 2), .ref (am 3), .ref (am 4), .ref (am 5), .int 0, .int 0, .int 0, .int 0, .int 0, .int 0, .int 0, .ref (am 6), .int 0, .ref (am 7), .int 0, .ref (am 8), .ref (am 9), .int (-1), .int 0, .int 0, .int (-1), .int 0, .ref (am 10), .int 0, .ref (am 11), .ref (am 12), .ref (am 13), .ref (am 14), .long 0, .ref (am 15), .ref (am 16), .ref (am 17), .ref (am 18)])), ((am 9), .inl (G.2.2 0, 110, .inl (fun _ => 0)))]) (va_runV (As := []) (rest := []) ⟨hx, hb, hml, hown, ht⟩ (c_S_minute l G H.size qx ax) (cwV 0 ht (ts_gV wd_854 wd_855 wd_856 wd_122 wd_857) rfl rfl rfl (by decide +kernel) ⟨Nat.le_of_ble_eq_true rfl, Nat.le_of_ble_eq_true rfl⟩) (gc_preV (ci := 11) (q0 := 0) hK hPc hDc rfl rfl) rfl rfl hl.1 rfl (lv_room (Nat.le_of_ble_eq_true rfl)) dL_law_440 ⟨Nat.le_of_ble_eq_true rfl, Nat.le_of_ble_eq_true rfl⟩) hP hD hS hA [0, 1, 2] [3, 4] rfl rfl (by decide) (by decide) (fun r u H locs hw hP hD hS => ?_)
  have hw : r = (-1) := hw
  subst hw
  have hP : va_P (gg_D G) classes [(qm, .inr (12, [.ref (am 0), .int 0, .int 0, .ref (am 1), .ref (am 2), .ref (am 3), .ref (am 4), .ref (am 5), .int 0, .int 0, .int 0, .int 0, .int 0, .int 0, .int 0, .ref (am 6), .int 0, .ref (am 7), .int 0, .ref (am 8), .ref (am 9), .int (-1), .int 0, .int 0, .int (-1), .int 0, .ref (am 10), .int 0, .ref (am 11), .ref (am 12), .ref (am 13), .ref (am 14), .long 0, .ref (am 15), .ref (am 16), .ref (am 17), .ref (am 18)])), ((am 9), .inl (G.2.2 0, 110, .inl (fun _ => 0)))] H := hP
  have hD : va_D A [(qm, .inr (12, [.ref (am 0), .int 0, .int 0, .ref (am 1), .ref (am 2), .ref (am 3), .ref (am 4), .ref (am 5), .int 0, .int 0, .int 0, .int 0, .int 0, .int 0, .int 0, .ref (am 6), .int 0, .ref (am 7), .int 0, .ref (am 8), .ref (am 9), .int (-1), .int 0, .int 0, .int (-1), .int 0, .ref (am 10), .int 0, .ref (am 11), .ref (am 12), .ref (am 13), .ref (am 14), .long 0, .ref (am 15), .ref (am 16), .ref (am 17), .ref (am 18)])), ((am 9), .inl (G.2.2 0, 110, .inl (fun _ => 0)))] := hD
  refine lv_aload_n hx hb dL_law_443 rfl (lv_at hl 1 rfl) ?_
  have hPc := hP.sub (ws' := [(qm, .inr (12, [.ref (am 0), .int 0, .int 0, .ref (am 1), .ref (am 2), .ref (am 3), .ref (am 4), .ref (am 5), .int 0, .int 0, .int 0, .int 0, .int 0, .int 0, .int 0, .ref (am 6), .int 0, .ref (am 7), .int 0, .ref (am 8), .ref (am 9), .int (-1), .int 0, .int 0, .int (-1), .int 0, .ref (am 10), .int 0, .ref (am 11), .ref (am 12), .ref (am 13), .ref (am 14), .long 0, .ref (am 15), .ref (am 16), .ref (am 17), .ref (am 18)])), ((am 9), .inl (G.2.2 0, 110, .inl (fun _ => 0)))]) [0, 1] rfl
  have hDc := hD.sub (ws' := [(qm, .inr (12, [.ref (am 0), .int 0, .int 0, .ref (am 1), .ref (am 2), .ref (am 3), .ref (am 4), .ref (am 5), .int 0, .int 0, .int 0, .int 0, .int 0, .int 0, .int 0, .ref (am 6), .int 0, .ref (am 7), .int 0, .ref (am 8), .ref (am 9), .int (-1), .int 0, .int 0, .int (-1), .int 0, .ref (am 10), .int 0, .ref (am 11), .ref (am 12), .ref (am 13), .ref (am 14), .long 0, .ref (am 15), .ref (am 16), .ref (am 17), .ref (am 18)])), ((am 9), .inl (G.2.2 0, 110, .inl (fun _ => 0)))]) [0, 1] (by decide) rfl
  refine gq_callI (wr := []) (va_runV (As := []) (rest := [.int (-1)]) ⟨hx, hb, hml, hown, ht⟩ (c_M_minute l G H.size qm am) (cwV 0 ht (ts_gV wd_1615 wd_1616 wd_1617 wd_134 wd_1618) rfl rfl rfl (by decide +kernel) ⟨Nat.le_of_ble_eq_true rfl, Nat.le_of_ble_eq_true rfl⟩) (gc_preV (ci := 12) (q0 := 0) hK hPc hDc rfl rfl) rfl rfl hl.1 rfl (lv_room (Nat.le_of_ble_eq_true rfl)) dL_law_444 ⟨Nat.le_of_ble_eq_true rfl, Nat.le_of_ble_eq_true rfl⟩) hP hD hS hA [0, 1] [] rfl rfl (by decide) (by decide) (fun r u H locs hw hP hD hS => ?_)
  have hw : r = (-1) := hw
  subst hw
  have hP : va_P (gg_D G) classes [] H := hP
  have hD : va_D A [] := hD
  refine lv_icmp_eq (tgt := 1095) hx hb dL_law_447 (by decide) (fun _ => ?_) (fun c0 => absurd (by decide +kernel) c0)
  refine lv_iinc (v := 6) (lv' := [(3, .int 6), (2, .ref qm), (1, .ref qx), (0, .ref b)]) hx hb dL_law_1095 hl (k := 0) rfl (by decide +kernel) (by decide) rfl (fun ls hl => ?_)
  refine lv_goto (tgt := 18) hx hb dL_law_1098 (by decide) ?_
  refine lv_iload_n hx hb dL_law_18 rfl (lv_at hl 0 rfl) ?_
  refine lv_aload_n hx hb dL_law_19 rfl (lv_at hl 3 rfl) ?_
  refine va_slen hx hb hX_ hbl hbA hS dL_law_20 ?_
  refine W.eq (g2 := F0 m 21 ls [.int 6, .int 6]) rfl ?_
  refine lv_bipush (v := 6) hx hb dL_law_21 (by decide +kernel) ?_
  refine gq_isub hx hb 0 (by decide +kernel) dL_law_23 ?_
  refine lv_icmp_gt (tgt := 1101) hx hb dL_law_24 (by decide) (fun _ => ?_) (fun c0 => absurd (by decide +kernel) c0)
  refine lv_iconst (v := 1) hx hb dL_law_1101 (by decide) ?_
  refine va_forget (fun q hq => hA2 _ (hS.2.2 q hq)) ?_
  refine W.widen (k := 600000) (n := 7302249) (Nat.le_of_ble_eq_true rfl) (Nat.le_of_ble_eq_true rfl) ?_
  exact lw_ret hx hb hr hlocks dL_law_1102
set_option maxHeartbeats 4000000 in
set_option maxRecDepth 100000 in
theorem lw_c10 {p : Program} {l : Launch} {e : Env} {s : State} {m : MethodId} {below : List Frame} {meth : Method} {c : Code} {b : Nat} {xs : Nat → Int32} (C0 : lw_At p s m meth c b 6 xs) {G : gg_T} {K V : Nat → Nat} {A : Nat → Prop} (hA : ∀ q : Nat, s.heap.size ≤ q → A q) (hA2 : ∀ q : Nat, A q → s.heap.size ≤ q) (hK : gg_K G s) (hX : sx_G K V A s s.heap) {qx qm : Nat} {ax am : Nat → Nat} {fs fo : Nat → Int32} {fr fi : Nat → Option Nat} (pr0 : fr 0 = some (ax 37)) (pi0 : fi 0 = some (ax 43)) (pi1 : fi 1 = some (ax 64)) (pi2 : fi 2 = some (ax 85)) (pi3 : fi 3 = some (ax 106)) {H : Heap} {locs : List Loc} {ls : Array Slot} (hP : va_P (gg_D G) classes (lw_W G qx qm ax am fs fo fr fi) H) (hD : va_D A (lw_W G qx qm ax am fs fo fr fi)) (hS : va_S A s.heap H locs) (hl : lv_has ls 4 [(3, .int 0), (2, .ref qm), (1, .ref qx), (0, .ref b)]) : W p l e room_1 s m #[Value.ref b] below meth c H locs 430 10514 (lw_Z below #[Value.ref b] s) (F0 m 452 ls []) := by
  obtain ⟨hx, hb, hr, hml, hown, hts, hX_, hbl, hlocks, hgv⟩ := id C0
  have ht : ∀ w ∈ tb_L, w.before #[Value.ref b] s = true := fun w h => hts w (List.mem_filter.mp h).1
  have hbA : ¬ A b := fun h => Nat.not_le.mpr hbl (hA2 b h)
  have hP := hP.sub (ws' := [(qx, .inr (11, [.ref (ax 0), .ref (ax 1), .ref (ax 2), .ref (ax 3), .ref (ax 4), .ref (ax 5), .ref (ax 6), .ref (ax 7), .ref (ax 8), .ref (ax 9), .ref (ax 10), .ref (ax 11), .ref (ax 12), .int 0, .int (-1), .int 0])), ((ax 1), .inr (9, [.int 0, .int 0, .int 0, .int 0, .ref (ax 14), .ref (ax 15), .ref (ax 16), .ref (ax 17), .ref (ax 18)])), (qm, .inr (12, [.ref (am 0), .int 0, .int 0, .ref (am 1), .ref (am 2), .ref (am 3), .ref (am 4), .ref (am 5), .int 0, .int 0, .int 0, .int 0, .int 0, .int 0, .int 0, .ref (am 6), .int 0, .ref (am 7), .int 0, .ref (am 8), .ref (am 9), .int (-1), .int 0, .int 0, .int (-1), .int 0, .ref (am 10), .int 0, .ref (am 11), .ref (am 12), .ref (am 13), .ref (am 14), .long 0, .ref (am 15), .ref (am 16), .ref (am 17), .ref (am 18)])), ((am 9), .inl (G.2.2 0, 110, .inl (fun _ => 0)))]) [0, 3, 113, 118] rfl
  have hD := hD.sub (ws' := [(qx, .inr (11, [.ref (ax 0), .ref (ax 1), .ref (ax 2), .ref (ax 3), .ref (ax 4), .ref (ax 5), .ref (ax 6), .ref (ax 7), .ref (ax 8), .ref (ax 9), .ref (ax 10), .ref (ax 11), .ref (ax 12), .int 0, .int (-1), .int 0])), ((ax 1), .inr (9, [.int 0, .int 0, .int 0, .int 0, .ref (ax 14), .ref (ax 15), .ref (ax 16), .ref (ax 17), .ref (ax 18)])), (qm, .inr (12, [.ref (am 0), .int 0, .int 0, .ref (am 1), .ref (am 2), .ref (am 3), .ref (am 4), .ref (am 5), .int 0, .int 0, .int 0, .int 0, .int 0, .int 0, .int 0, .ref (am 6), .int 0, .ref (am 7), .int 0, .ref (am 8), .ref (am 9), .int (-1), .int 0, .int 0, .int (-1), .int 0, .ref (am 10), .int 0, .ref (am 11), .ref (am 12), .ref (am 13), .ref (am 14), .long 0, .ref (am 15), .ref (am 16), .ref (am 17), .ref (am 18)])), ((am 9), .inl (G.2.2 0, 110, .inl (fun _ => 0)))]) [0, 3, 113, 118] (by decide) rfl
  refine lv_aload_n hx hb dL_law_452 rfl (lv_at hl 2 rfl) ?_
  refine lv_aload_n hx hb dL_law_453 rfl (lv_at hl 3 rfl) ?_
  refine lv_iload_n hx hb dL_law_454 rfl (lv_at hl 0 rfl) ?_
  refine lv_iconst (v := 1) hx hb dL_law_455 (by decide) ?_
  refine gq_iadd hx hb 1 (by decide +kernel) dL_law_456 ?_
  refine va_sld hx hb hX_ hbl hbA hS (by unfold vp_in; decide +kernel) dL_law_457 ?_
  refine lv_aload_n hx hb dL_law_458 rfl (lv_at hl 3 rfl) ?_
  refine lv_iload_n hx hb dL_law_459 rfl (lv_at hl 0 rfl) ?_
  refine lv_iconst (v := 2) hx hb dL_law_460 (by decide) ?_
  refine gq_iadd hx hb 2 (by decide +kernel) dL_law_461 ?_
  refine va_sld hx hb hX_ hbl hbA hS (by unfold vp_in; decide +kernel) dL_law_462 ?_
  have hPc := hP.sub (ws' := [(qx, .inr (11, [.ref (ax 0), .ref (ax 1), .ref (ax 2), .ref (ax 3), .ref (ax 4), .ref (ax 5), .ref (ax 6), .ref (ax 7), .ref (ax 8), .ref (ax 9), .ref (ax 10), .ref (ax 11), .ref (ax 12), .int 0, .int (-1), .int 0])), ((ax 1), .inr (9, [.int 0, .int 0, .int 0, .int 0, .ref (ax 14), .ref (ax 15), .ref (ax 16), .ref (ax 17), .ref (ax 18)]))]) [0, 1] rfl
  have hDc := hD.sub (ws' := [(qx, .inr (11, [.ref (ax 0), .ref (ax 1), .ref (ax 2), .ref (ax 3), .ref (ax 4), .ref (ax 5), .ref (ax 6), .ref (ax 7), .ref (ax 8), .ref (ax 9), .ref (ax 10), .ref (ax 11), .ref (ax 12), .int 0, .int (-1), .int 0])), ((ax 1), .inr (9, [.int 0, .int 0, .int 0, .int 0, .ref (ax 14), .ref (ax 15), .ref (ax 16), .ref (ax 17), .ref (ax 18)]))]) [0, 1] (by decide) rfl
  refine gq_callI (wr := [(qm, .inr (12, [.ref (am 0), .int 0, .int 0, .ref (am 1), .ref (am 2), .ref (am 3), .ref (am 4), .ref (am 5), .int 0, .int 0, .int 0, .int 0, .int 0, .int 0, .int 0, .ref (am 6), .int 0, .ref (am 7), .int 0, .ref (am 8), .ref (am 9), .int (-1), .int 0, .int 0, .int (-1), .int 0, .ref (am 10), .int 0, .ref (am 11), .ref (am 12), .ref (am 13), .ref (am 14), .long 0, .ref (am 15), .ref (am 16), .ref (am 17), .ref (am 18)])), ((am 9), .inl (G.2.2 0, 110, .inl (fun _ => 0)))]) (va_runV (As := [.int (xs (Int32.toNatClampNeg 1)), .int (xs (Int32.toNatClampNeg 2))]) (rest := []) ⟨hx, hb, hml, hown, ht⟩ (c_S_sit l G H.size qx ax (xs (Int32.toNatClampNeg 1)) (xs (Int32.toNatClampNeg 2))) (cwV 2 ht (ts_gV wd_935 wd_936 wd_937 wd_122 wd_938) rfl rfl rfl (by decide +kernel) ⟨Nat.le_of_ble_eq_true rfl, Nat.le_of_ble_eq_true rfl⟩) (gc_preV (ci := 11) (q0 := 0) hK hPc hDc rfl rfl) rfl rfl hl.1 rfl (lv_room (Nat.le_of_ble_eq_true rfl)) dL_law_463 ⟨Nat.le_of_ble_eq_true rfl, Nat.le_of_ble_eq_true rfl⟩) hP hD hS hA [0, 1] [2, 3] rfl rfl (by decide) (by decide) (fun r u H locs hw hP hD hS => ?_)
  have hw : r = (-2) := hw
  subst hw
  have hP : va_P (gg_D G) classes [(qm, .inr (12, [.ref (am 0), .int 0, .int 0, .ref (am 1), .ref (am 2), .ref (am 3), .ref (am 4), .ref (am 5), .int 0, .int 0, .int 0, .int 0, .int 0, .int 0, .int 0, .ref (am 6), .int 0, .ref (am 7), .int 0, .ref (am 8), .ref (am 9), .int (-1), .int 0, .int 0, .int (-1), .int 0, .ref (am 10), .int 0, .ref (am 11), .ref (am 12), .ref (am 13), .ref (am 14), .long 0, .ref (am 15), .ref (am 16), .ref (am 17), .ref (am 18)])), ((am 9), .inl (G.2.2 0, 110, .inl (fun _ => 0)))] H := hP
  have hD : va_D A [(qm, .inr (12, [.ref (am 0), .int 0, .int 0, .ref (am 1), .ref (am 2), .ref (am 3), .ref (am 4), .ref (am 5), .int 0, .int 0, .int 0, .int 0, .int 0, .int 0, .int 0, .ref (am 6), .int 0, .ref (am 7), .int 0, .ref (am 8), .ref (am 9), .int (-1), .int 0, .int 0, .int (-1), .int 0, .ref (am 10), .int 0, .ref (am 11), .ref (am 12), .ref (am 13), .ref (am 14), .long 0, .ref (am 15), .ref (am 16), .ref (am 17), .ref (am 18)])), ((am 9), .inl (G.2.2 0, 110, .inl (fun _ => 0)))] := hD
  refine lv_aload_n hx hb dL_law_466 rfl (lv_at hl 1 rfl) ?_
  refine lv_aload_n hx hb dL_law_467 rfl (lv_at hl 3 rfl) ?_
  refine lv_iload_n hx hb dL_law_468 rfl (lv_at hl 0 rfl) ?_
  refine lv_iconst (v := 1) hx hb dL_law_469 (by decide) ?_
  refine gq_iadd hx hb 1 (by decide +kernel) dL_law_470 ?_
  refine va_sld hx hb hX_ hbl hbA hS (by unfold vp_in; decide +kernel) dL_law_471 ?_
  refine lv_aload_n hx hb dL_law_472 rfl (lv_at hl 3 rfl) ?_
  refine lv_iload_n hx hb dL_law_473 rfl (lv_at hl 0 rfl) ?_
  refine lv_iconst (v := 2) hx hb dL_law_474 (by decide) ?_
  refine gq_iadd hx hb 2 (by decide +kernel) dL_law_475 ?_
  refine va_sld hx hb hX_ hbl hbA hS (by unfold vp_in; decide +kernel) dL_law_476 ?_
  have hPc := hP.sub (ws' := [(qm, .inr (12, [.ref (am 0), .int 0, .int 0, .ref (am 1), .ref (am 2), .ref (am 3), .ref (am 4), .ref (am 5), .int 0, .int 0, .int 0, .int 0, .int 0, .int 0, .int 0, .ref (am 6), .int 0, .ref (am 7), .int 0, .ref (am 8), .ref (am 9), .int (-1), .int 0, .int 0, .int (-1), .int 0, .ref (am 10), .int 0, .ref (am 11), .ref (am 12), .ref (am 13), .ref (am 14), .long 0, .ref (am 15), .ref (am 16), .ref (am 17), .ref (am 18)])), ((am 9), .inl (G.2.2 0, 110, .inl (fun _ => 0)))]) [0, 1] rfl
  have hDc := hD.sub (ws' := [(qm, .inr (12, [.ref (am 0), .int 0, .int 0, .ref (am 1), .ref (am 2), .ref (am 3), .ref (am 4), .ref (am 5), .int 0, .int 0, .int 0, .int 0, .int 0, .int 0, .int 0, .ref (am 6), .int 0, .ref (am 7), .int 0, .ref (am 8), .ref (am 9), .int (-1), .int 0, .int 0, .int (-1), .int 0, .ref (am 10), .int 0, .ref (am 11), .ref (am 12), .ref (am 13), .ref (am 14), .long 0, .ref (am 15), .ref (am 16), .ref (am 17), .ref (am 18)])), ((am 9), .inl (G.2.2 0, 110, .inl (fun _ => 0)))]) [0, 1] (by decide) rfl
  refine gq_callI (wr := []) (va_runV (As := [.int (xs (Int32.toNatClampNeg 1)), .int (xs (Int32.toNatClampNeg 2))]) (rest := [.int (-2)]) ⟨hx, hb, hml, hown, ht⟩ (c_M_sit l G H.size qm am (xs (Int32.toNatClampNeg 1)) (xs (Int32.toNatClampNeg 2))) (cwV 2 ht (ts_gV wd_1676 wd_1677 wd_1678 wd_134 wd_1679) rfl rfl rfl (by decide +kernel) ⟨Nat.le_of_ble_eq_true rfl, Nat.le_of_ble_eq_true rfl⟩) (gc_preV (ci := 12) (q0 := 0) hK hPc hDc rfl rfl) rfl rfl hl.1 rfl (lv_room (Nat.le_of_ble_eq_true rfl)) dL_law_477 ⟨Nat.le_of_ble_eq_true rfl, Nat.le_of_ble_eq_true rfl⟩) hP hD hS hA [0, 1] [] rfl rfl (by decide) (by decide) (fun r u H locs hw hP hD hS => ?_)
  have hw : r = (-2) := hw
  subst hw
  have hP : va_P (gg_D G) classes [] H := hP
  have hD : va_D A [] := hD
  refine lv_icmp_eq (tgt := 1095) hx hb dL_law_480 (by decide) (fun _ => ?_) (fun c0 => absurd (by decide +kernel) c0)
  refine lv_iinc (v := 6) (lv' := [(3, .int 6), (2, .ref qm), (1, .ref qx), (0, .ref b)]) hx hb dL_law_1095 hl (k := 0) rfl (by decide +kernel) (by decide) rfl (fun ls hl => ?_)
  refine lv_goto (tgt := 18) hx hb dL_law_1098 (by decide) ?_
  refine lv_iload_n hx hb dL_law_18 rfl (lv_at hl 0 rfl) ?_
  refine lv_aload_n hx hb dL_law_19 rfl (lv_at hl 3 rfl) ?_
  refine va_slen hx hb hX_ hbl hbA hS dL_law_20 ?_
  refine W.eq (g2 := F0 m 21 ls [.int 6, .int 6]) rfl ?_
  refine lv_bipush (v := 6) hx hb dL_law_21 (by decide +kernel) ?_
  refine gq_isub hx hb 0 (by decide +kernel) dL_law_23 ?_
  refine lv_icmp_gt (tgt := 1101) hx hb dL_law_24 (by decide) (fun _ => ?_) (fun c0 => absurd (by decide +kernel) c0)
  refine lv_iconst (v := 1) hx hb dL_law_1101 (by decide) ?_
  refine va_forget (fun q hq => hA2 _ (hS.2.2 q hq)) ?_
  refine W.widen (k := 600000) (n := 7302249) (Nat.le_of_ble_eq_true rfl) (Nat.le_of_ble_eq_true rfl) ?_
  exact lw_ret hx hb hr hlocks dL_law_1102
set_option maxHeartbeats 4000000 in
set_option maxRecDepth 100000 in
theorem lw_c11 {p : Program} {l : Launch} {e : Env} {s : State} {m : MethodId} {below : List Frame} {meth : Method} {c : Code} {b : Nat} {xs : Nat → Int32} (C0 : lw_At p s m meth c b 6 xs) {G : gg_T} {K V : Nat → Nat} {A : Nat → Prop} (hA : ∀ q : Nat, s.heap.size ≤ q → A q) (hA2 : ∀ q : Nat, A q → s.heap.size ≤ q) (hK : gg_K G s) (hX : sx_G K V A s s.heap) {qx qm : Nat} {ax am : Nat → Nat} {fs fo : Nat → Int32} {fr fi : Nat → Option Nat} (pr0 : fr 0 = some (ax 37)) (pi0 : fi 0 = some (ax 43)) (pi1 : fi 1 = some (ax 64)) (pi2 : fi 2 = some (ax 85)) (pi3 : fi 3 = some (ax 106)) {H : Heap} {locs : List Loc} {ls : Array Slot} (hP : va_P (gg_D G) classes (lw_W G qx qm ax am fs fo fr fi) H) (hD : va_D A (lw_W G qx qm ax am fs fo fr fi)) (hS : va_S A s.heap H locs) (hl : lv_has ls 4 [(3, .int 0), (2, .ref qm), (1, .ref qx), (0, .ref b)]) : W p l e room_1 s m #[Value.ref b] below meth c H locs 430 10514 (lw_Z below #[Value.ref b] s) (F0 m 485 ls []) := by
  obtain ⟨hx, hb, hr, hml, hown, hts, hX_, hbl, hlocks, hgv⟩ := id C0
  have ht : ∀ w ∈ tb_L, w.before #[Value.ref b] s = true := fun w h => hts w (List.mem_filter.mp h).1
  have hbA : ¬ A b := fun h => Nat.not_le.mpr hbl (hA2 b h)
  have hP := hP.sub (ws' := [(qx, .inr (11, [.ref (ax 0), .ref (ax 1), .ref (ax 2), .ref (ax 3), .ref (ax 4), .ref (ax 5), .ref (ax 6), .ref (ax 7), .ref (ax 8), .ref (ax 9), .ref (ax 10), .ref (ax 11), .ref (ax 12), .int 0, .int (-1), .int 0])), ((ax 1), .inr (9, [.int 0, .int 0, .int 0, .int 0, .ref (ax 14), .ref (ax 15), .ref (ax 16), .ref (ax 17), .ref (ax 18)])), (qm, .inr (12, [.ref (am 0), .int 0, .int 0, .ref (am 1), .ref (am 2), .ref (am 3), .ref (am 4), .ref (am 5), .int 0, .int 0, .int 0, .int 0, .int 0, .int 0, .int 0, .ref (am 6), .int 0, .ref (am 7), .int 0, .ref (am 8), .ref (am 9), .int (-1), .int 0, .int 0, .int (-1), .int 0, .ref (am 10), .int 0, .ref (am 11), .ref (am 12), .ref (am 13), .ref (am 14), .long 0, .ref (am 15), .ref (am 16), .ref (am 17), .ref (am 18)])), ((am 9), .inl (G.2.2 0, 110, .inl (fun _ => 0)))]) [0, 3, 113, 118] rfl
  have hD := hD.sub (ws' := [(qx, .inr (11, [.ref (ax 0), .ref (ax 1), .ref (ax 2), .ref (ax 3), .ref (ax 4), .ref (ax 5), .ref (ax 6), .ref (ax 7), .ref (ax 8), .ref (ax 9), .ref (ax 10), .ref (ax 11), .ref (ax 12), .int 0, .int (-1), .int 0])), ((ax 1), .inr (9, [.int 0, .int 0, .int 0, .int 0, .ref (ax 14), .ref (ax 15), .ref (ax 16), .ref (ax 17), .ref (ax 18)])), (qm, .inr (12, [.ref (am 0), .int 0, .int 0, .ref (am 1), .ref (am 2), .ref (am 3), .ref (am 4), .ref (am 5), .int 0, .int 0, .int 0, .int 0, .int 0, .int 0, .int 0, .ref (am 6), .int 0, .ref (am 7), .int 0, .ref (am 8), .ref (am 9), .int (-1), .int 0, .int 0, .int (-1), .int 0, .ref (am 10), .int 0, .ref (am 11), .ref (am 12), .ref (am 13), .ref (am 14), .long 0, .ref (am 15), .ref (am 16), .ref (am 17), .ref (am 18)])), ((am 9), .inl (G.2.2 0, 110, .inl (fun _ => 0)))]) [0, 3, 113, 118] (by decide) rfl
  refine lv_aload_n hx hb dL_law_485 rfl (lv_at hl 2 rfl) ?_
  refine lv_aload_n hx hb dL_law_486 rfl (lv_at hl 3 rfl) ?_
  refine lv_iload_n hx hb dL_law_487 rfl (lv_at hl 0 rfl) ?_
  refine lv_iconst (v := 1) hx hb dL_law_488 (by decide) ?_
  refine gq_iadd hx hb 1 (by decide +kernel) dL_law_489 ?_
  refine va_sld hx hb hX_ hbl hbA hS (by unfold vp_in; decide +kernel) dL_law_490 ?_
  have hPc := hP.sub (ws' := [(qx, .inr (11, [.ref (ax 0), .ref (ax 1), .ref (ax 2), .ref (ax 3), .ref (ax 4), .ref (ax 5), .ref (ax 6), .ref (ax 7), .ref (ax 8), .ref (ax 9), .ref (ax 10), .ref (ax 11), .ref (ax 12), .int 0, .int (-1), .int 0])), ((ax 1), .inr (9, [.int 0, .int 0, .int 0, .int 0, .ref (ax 14), .ref (ax 15), .ref (ax 16), .ref (ax 17), .ref (ax 18)]))]) [0, 1] rfl
  have hDc := hD.sub (ws' := [(qx, .inr (11, [.ref (ax 0), .ref (ax 1), .ref (ax 2), .ref (ax 3), .ref (ax 4), .ref (ax 5), .ref (ax 6), .ref (ax 7), .ref (ax 8), .ref (ax 9), .ref (ax 10), .ref (ax 11), .ref (ax 12), .int 0, .int (-1), .int 0])), ((ax 1), .inr (9, [.int 0, .int 0, .int 0, .int 0, .ref (ax 14), .ref (ax 15), .ref (ax 16), .ref (ax 17), .ref (ax 18)]))]) [0, 1] (by decide) rfl
  refine gq_callI (wr := [(qm, .inr (12, [.ref (am 0), .int 0, .int 0, .ref (am 1), .ref (am 2), .ref (am 3), .ref (am 4), .ref (am 5), .int 0, .int 0, .int 0, .int 0, .int 0, .int 0, .int 0, .ref (am 6), .int 0, .ref (am 7), .int 0, .ref (am 8), .ref (am 9), .int (-1), .int 0, .int 0, .int (-1), .int 0, .ref (am 10), .int 0, .ref (am 11), .ref (am 12), .ref (am 13), .ref (am 14), .long 0, .ref (am 15), .ref (am 16), .ref (am 17), .ref (am 18)])), ((am 9), .inl (G.2.2 0, 110, .inl (fun _ => 0)))]) (va_runV (As := [.int (xs (Int32.toNatClampNeg 1))]) (rest := []) ⟨hx, hb, hml, hown, ht⟩ (c_S_bell l G H.size qx ax (xs (Int32.toNatClampNeg 1))) (cwV 1 ht (ts_gV wd_939 wd_940 wd_941 wd_122 wd_942) rfl rfl rfl (by decide +kernel) ⟨Nat.le_of_ble_eq_true rfl, Nat.le_of_ble_eq_true rfl⟩) (gc_preV (ci := 11) (q0 := 0) hK hPc hDc rfl rfl) rfl rfl hl.1 rfl (lv_room (Nat.le_of_ble_eq_true rfl)) dL_law_491 ⟨Nat.le_of_ble_eq_true rfl, Nat.le_of_ble_eq_true rfl⟩) hP hD hS hA [0, 1] [2, 3] rfl rfl (by decide) (by decide) (fun r u H locs hw hP hD hS => ?_)
  have hw : r = (-1) := hw
  subst hw
  have hP : va_P (gg_D G) classes [(qm, .inr (12, [.ref (am 0), .int 0, .int 0, .ref (am 1), .ref (am 2), .ref (am 3), .ref (am 4), .ref (am 5), .int 0, .int 0, .int 0, .int 0, .int 0, .int 0, .int 0, .ref (am 6), .int 0, .ref (am 7), .int 0, .ref (am 8), .ref (am 9), .int (-1), .int 0, .int 0, .int (-1), .int 0, .ref (am 10), .int 0, .ref (am 11), .ref (am 12), .ref (am 13), .ref (am 14), .long 0, .ref (am 15), .ref (am 16), .ref (am 17), .ref (am 18)])), ((am 9), .inl (G.2.2 0, 110, .inl (fun _ => 0)))] H := hP
  have hD : va_D A [(qm, .inr (12, [.ref (am 0), .int 0, .int 0, .ref (am 1), .ref (am 2), .ref (am 3), .ref (am 4), .ref (am 5), .int 0, .int 0, .int 0, .int 0, .int 0, .int 0, .int 0, .ref (am 6), .int 0, .ref (am 7), .int 0, .ref (am 8), .ref (am 9), .int (-1), .int 0, .int 0, .int (-1), .int 0, .ref (am 10), .int 0, .ref (am 11), .ref (am 12), .ref (am 13), .ref (am 14), .long 0, .ref (am 15), .ref (am 16), .ref (am 17), .ref (am 18)])), ((am 9), .inl (G.2.2 0, 110, .inl (fun _ => 0)))] := hD
  refine lv_aload_n hx hb dL_law_494 rfl (lv_at hl 1 rfl) ?_
  refine lv_aload_n hx hb dL_law_495 rfl (lv_at hl 3 rfl) ?_
  refine lv_iload_n hx hb dL_law_496 rfl (lv_at hl 0 rfl) ?_
  refine lv_iconst (v := 1) hx hb dL_law_497 (by decide) ?_
  refine gq_iadd hx hb 1 (by decide +kernel) dL_law_498 ?_
  refine va_sld hx hb hX_ hbl hbA hS (by unfold vp_in; decide +kernel) dL_law_499 ?_
  have hPc := hP.sub (ws' := [(qm, .inr (12, [.ref (am 0), .int 0, .int 0, .ref (am 1), .ref (am 2), .ref (am 3), .ref (am 4), .ref (am 5), .int 0, .int 0, .int 0, .int 0, .int 0, .int 0, .int 0, .ref (am 6), .int 0, .ref (am 7), .int 0, .ref (am 8), .ref (am 9), .int (-1), .int 0, .int 0, .int (-1), .int 0, .ref (am 10), .int 0, .ref (am 11), .ref (am 12), .ref (am 13), .ref (am 14), .long 0, .ref (am 15), .ref (am 16), .ref (am 17), .ref (am 18)])), ((am 9), .inl (G.2.2 0, 110, .inl (fun _ => 0)))]) [0, 1] rfl
  have hDc := hD.sub (ws' := [(qm, .inr (12, [.ref (am 0), .int 0, .int 0, .ref (am 1), .ref (am 2), .ref (am 3), .ref (am 4), .ref (am 5), .int 0, .int 0, .int 0, .int 0, .int 0, .int 0, .int 0, .ref (am 6), .int 0, .ref (am 7), .int 0, .ref (am 8), .ref (am 9), .int (-1), .int 0, .int 0, .int (-1), .int 0, .ref (am 10), .int 0, .ref (am 11), .ref (am 12), .ref (am 13), .ref (am 14), .long 0, .ref (am 15), .ref (am 16), .ref (am 17), .ref (am 18)])), ((am 9), .inl (G.2.2 0, 110, .inl (fun _ => 0)))]) [0, 1] (by decide) rfl
  refine gq_callI (wr := []) (va_runV (As := [.int (xs (Int32.toNatClampNeg 1))]) (rest := [.int (-1)]) ⟨hx, hb, hml, hown, ht⟩ (c_M_bell l G H.size qm am (xs (Int32.toNatClampNeg 1))) (cwV 1 ht (ts_gV wd_1680 wd_1681 wd_1682 wd_134 wd_1683) rfl rfl rfl (by decide +kernel) ⟨Nat.le_of_ble_eq_true rfl, Nat.le_of_ble_eq_true rfl⟩) (gc_preV (ci := 12) (q0 := 0) hK hPc hDc rfl rfl) rfl rfl hl.1 rfl (lv_room (Nat.le_of_ble_eq_true rfl)) dL_law_500 ⟨Nat.le_of_ble_eq_true rfl, Nat.le_of_ble_eq_true rfl⟩) hP hD hS hA [0, 1] [] rfl rfl (by decide) (by decide) (fun r u H locs hw hP hD hS => ?_)
  have hw : r = (-1) := hw
  subst hw
  have hP : va_P (gg_D G) classes [] H := hP
  have hD : va_D A [] := hD
  refine lv_icmp_eq (tgt := 1095) hx hb dL_law_503 (by decide) (fun _ => ?_) (fun c0 => absurd (by decide +kernel) c0)
  refine lv_iinc (v := 6) (lv' := [(3, .int 6), (2, .ref qm), (1, .ref qx), (0, .ref b)]) hx hb dL_law_1095 hl (k := 0) rfl (by decide +kernel) (by decide) rfl (fun ls hl => ?_)
  refine lv_goto (tgt := 18) hx hb dL_law_1098 (by decide) ?_
  refine lv_iload_n hx hb dL_law_18 rfl (lv_at hl 0 rfl) ?_
  refine lv_aload_n hx hb dL_law_19 rfl (lv_at hl 3 rfl) ?_
  refine va_slen hx hb hX_ hbl hbA hS dL_law_20 ?_
  refine W.eq (g2 := F0 m 21 ls [.int 6, .int 6]) rfl ?_
  refine lv_bipush (v := 6) hx hb dL_law_21 (by decide +kernel) ?_
  refine gq_isub hx hb 0 (by decide +kernel) dL_law_23 ?_
  refine lv_icmp_gt (tgt := 1101) hx hb dL_law_24 (by decide) (fun _ => ?_) (fun c0 => absurd (by decide +kernel) c0)
  refine lv_iconst (v := 1) hx hb dL_law_1101 (by decide) ?_
  refine va_forget (fun q hq => hA2 _ (hS.2.2 q hq)) ?_
  refine W.widen (k := 600000) (n := 7302249) (Nat.le_of_ble_eq_true rfl) (Nat.le_of_ble_eq_true rfl) ?_
  exact lw_ret hx hb hr hlocks dL_law_1102
set_option maxHeartbeats 4000000 in
set_option maxRecDepth 100000 in
theorem lw_c12 {p : Program} {l : Launch} {e : Env} {s : State} {m : MethodId} {below : List Frame} {meth : Method} {c : Code} {b : Nat} {xs : Nat → Int32} (C0 : lw_At p s m meth c b 6 xs) {G : gg_T} {K V : Nat → Nat} {A : Nat → Prop} (hA : ∀ q : Nat, s.heap.size ≤ q → A q) (hA2 : ∀ q : Nat, A q → s.heap.size ≤ q) (hK : gg_K G s) (hX : sx_G K V A s s.heap) {qx qm : Nat} {ax am : Nat → Nat} {fs fo : Nat → Int32} {fr fi : Nat → Option Nat} (pr0 : fr 0 = some (ax 37)) (pi0 : fi 0 = some (ax 43)) (pi1 : fi 1 = some (ax 64)) (pi2 : fi 2 = some (ax 85)) (pi3 : fi 3 = some (ax 106)) {H : Heap} {locs : List Loc} {ls : Array Slot} (hP : va_P (gg_D G) classes (lw_W G qx qm ax am fs fo fr fi) H) (hD : va_D A (lw_W G qx qm ax am fs fo fr fi)) (hS : va_S A s.heap H locs) (hl : lv_has ls 4 [(3, .int 0), (2, .ref qm), (1, .ref qx), (0, .ref b)]) : W p l e room_1 s m #[Value.ref b] below meth c H locs 430 10514 (lw_Z below #[Value.ref b] s) (F0 m 508 ls []) := by
  obtain ⟨hx, hb, hr, hml, hown, hts, hX_, hbl, hlocks, hgv⟩ := id C0
  have ht : ∀ w ∈ tb_L, w.before #[Value.ref b] s = true := fun w h => hts w (List.mem_filter.mp h).1
  have hbA : ¬ A b := fun h => Nat.not_le.mpr hbl (hA2 b h)
  have hP := hP.sub (ws' := [(qx, .inr (11, [.ref (ax 0), .ref (ax 1), .ref (ax 2), .ref (ax 3), .ref (ax 4), .ref (ax 5), .ref (ax 6), .ref (ax 7), .ref (ax 8), .ref (ax 9), .ref (ax 10), .ref (ax 11), .ref (ax 12), .int 0, .int (-1), .int 0])), ((ax 1), .inr (9, [.int 0, .int 0, .int 0, .int 0, .ref (ax 14), .ref (ax 15), .ref (ax 16), .ref (ax 17), .ref (ax 18)])), (qm, .inr (12, [.ref (am 0), .int 0, .int 0, .ref (am 1), .ref (am 2), .ref (am 3), .ref (am 4), .ref (am 5), .int 0, .int 0, .int 0, .int 0, .int 0, .int 0, .int 0, .ref (am 6), .int 0, .ref (am 7), .int 0, .ref (am 8), .ref (am 9), .int (-1), .int 0, .int 0, .int (-1), .int 0, .ref (am 10), .int 0, .ref (am 11), .ref (am 12), .ref (am 13), .ref (am 14), .long 0, .ref (am 15), .ref (am 16), .ref (am 17), .ref (am 18)])), ((am 9), .inl (G.2.2 0, 110, .inl (fun _ => 0)))]) [0, 3, 113, 118] rfl
  have hD := hD.sub (ws' := [(qx, .inr (11, [.ref (ax 0), .ref (ax 1), .ref (ax 2), .ref (ax 3), .ref (ax 4), .ref (ax 5), .ref (ax 6), .ref (ax 7), .ref (ax 8), .ref (ax 9), .ref (ax 10), .ref (ax 11), .ref (ax 12), .int 0, .int (-1), .int 0])), ((ax 1), .inr (9, [.int 0, .int 0, .int 0, .int 0, .ref (ax 14), .ref (ax 15), .ref (ax 16), .ref (ax 17), .ref (ax 18)])), (qm, .inr (12, [.ref (am 0), .int 0, .int 0, .ref (am 1), .ref (am 2), .ref (am 3), .ref (am 4), .ref (am 5), .int 0, .int 0, .int 0, .int 0, .int 0, .int 0, .int 0, .ref (am 6), .int 0, .ref (am 7), .int 0, .ref (am 8), .ref (am 9), .int (-1), .int 0, .int 0, .int (-1), .int 0, .ref (am 10), .int 0, .ref (am 11), .ref (am 12), .ref (am 13), .ref (am 14), .long 0, .ref (am 15), .ref (am 16), .ref (am 17), .ref (am 18)])), ((am 9), .inl (G.2.2 0, 110, .inl (fun _ => 0)))]) [0, 3, 113, 118] (by decide) rfl
  refine lv_aload_n hx hb dL_law_508 rfl (lv_at hl 2 rfl) ?_
  refine lv_aload_n hx hb dL_law_509 rfl (lv_at hl 3 rfl) ?_
  refine lv_iload_n hx hb dL_law_510 rfl (lv_at hl 0 rfl) ?_
  refine lv_iconst (v := 1) hx hb dL_law_511 (by decide) ?_
  refine gq_iadd hx hb 1 (by decide +kernel) dL_law_512 ?_
  refine va_sld hx hb hX_ hbl hbA hS (by unfold vp_in; decide +kernel) dL_law_513 ?_
  refine lv_aload_n hx hb dL_law_514 rfl (lv_at hl 3 rfl) ?_
  refine lv_iload_n hx hb dL_law_515 rfl (lv_at hl 0 rfl) ?_
  refine lv_iconst (v := 2) hx hb dL_law_516 (by decide) ?_
  refine gq_iadd hx hb 2 (by decide +kernel) dL_law_517 ?_
  refine va_sld hx hb hX_ hbl hbA hS (by unfold vp_in; decide +kernel) dL_law_518 ?_
  refine lv_aload_n hx hb dL_law_519 rfl (lv_at hl 3 rfl) ?_
  refine lv_iload_n hx hb dL_law_520 rfl (lv_at hl 0 rfl) ?_
  refine lv_iconst (v := 3) hx hb dL_law_521 (by decide) ?_
  refine gq_iadd hx hb 3 (by decide +kernel) dL_law_522 ?_
  refine va_sld hx hb hX_ hbl hbA hS (by unfold vp_in; decide +kernel) dL_law_523 ?_
  have hPc := hP.sub (ws' := [(qx, .inr (11, [.ref (ax 0), .ref (ax 1), .ref (ax 2), .ref (ax 3), .ref (ax 4), .ref (ax 5), .ref (ax 6), .ref (ax 7), .ref (ax 8), .ref (ax 9), .ref (ax 10), .ref (ax 11), .ref (ax 12), .int 0, .int (-1), .int 0])), ((ax 1), .inr (9, [.int 0, .int 0, .int 0, .int 0, .ref (ax 14), .ref (ax 15), .ref (ax 16), .ref (ax 17), .ref (ax 18)]))]) [0, 1] rfl
  have hDc := hD.sub (ws' := [(qx, .inr (11, [.ref (ax 0), .ref (ax 1), .ref (ax 2), .ref (ax 3), .ref (ax 4), .ref (ax 5), .ref (ax 6), .ref (ax 7), .ref (ax 8), .ref (ax 9), .ref (ax 10), .ref (ax 11), .ref (ax 12), .int 0, .int (-1), .int 0])), ((ax 1), .inr (9, [.int 0, .int 0, .int 0, .int 0, .ref (ax 14), .ref (ax 15), .ref (ax 16), .ref (ax 17), .ref (ax 18)]))]) [0, 1] (by decide) rfl
  refine gq_callI (wr := [(qm, .inr (12, [.ref (am 0), .int 0, .int 0, .ref (am 1), .ref (am 2), .ref (am 3), .ref (am 4), .ref (am 5), .int 0, .int 0, .int 0, .int 0, .int 0, .int 0, .int 0, .ref (am 6), .int 0, .ref (am 7), .int 0, .ref (am 8), .ref (am 9), .int (-1), .int 0, .int 0, .int (-1), .int 0, .ref (am 10), .int 0, .ref (am 11), .ref (am 12), .ref (am 13), .ref (am 14), .long 0, .ref (am 15), .ref (am 16), .ref (am 17), .ref (am 18)])), ((am 9), .inl (G.2.2 0, 110, .inl (fun _ => 0)))]) (va_runV (As := [.int (xs (Int32.toNatClampNeg 1)), .int (xs (Int32.toNatClampNeg 2)), .int (xs (Int32.toNatClampNeg 3))]) (rest := []) ⟨hx, hb, hml, hown, ht⟩ (c_S_play l G H.size qx ax (xs (Int32.toNatClampNeg 1)) (xs (Int32.toNatClampNeg 2)) (xs (Int32.toNatClampNeg 3))) (cwV 3 ht (ts_gV wd_951 wd_952 wd_953 wd_122 wd_954) rfl rfl rfl (by decide +kernel) ⟨Nat.le_of_ble_eq_true rfl, Nat.le_of_ble_eq_true rfl⟩) (gc_preV (ci := 11) (q0 := 0) hK hPc hDc rfl rfl) rfl rfl hl.1 rfl (lv_room (Nat.le_of_ble_eq_true rfl)) dL_law_524 ⟨Nat.le_of_ble_eq_true rfl, Nat.le_of_ble_eq_true rfl⟩) hP hD hS hA [0, 1] [2, 3] rfl rfl (by decide) (by decide) (fun r u H locs hw hP hD hS => ?_)
  have hw : r = (-1) := hw
  subst hw
  have hP : va_P (gg_D G) classes [(qm, .inr (12, [.ref (am 0), .int 0, .int 0, .ref (am 1), .ref (am 2), .ref (am 3), .ref (am 4), .ref (am 5), .int 0, .int 0, .int 0, .int 0, .int 0, .int 0, .int 0, .ref (am 6), .int 0, .ref (am 7), .int 0, .ref (am 8), .ref (am 9), .int (-1), .int 0, .int 0, .int (-1), .int 0, .ref (am 10), .int 0, .ref (am 11), .ref (am 12), .ref (am 13), .ref (am 14), .long 0, .ref (am 15), .ref (am 16), .ref (am 17), .ref (am 18)])), ((am 9), .inl (G.2.2 0, 110, .inl (fun _ => 0)))] H := hP
  have hD : va_D A [(qm, .inr (12, [.ref (am 0), .int 0, .int 0, .ref (am 1), .ref (am 2), .ref (am 3), .ref (am 4), .ref (am 5), .int 0, .int 0, .int 0, .int 0, .int 0, .int 0, .int 0, .ref (am 6), .int 0, .ref (am 7), .int 0, .ref (am 8), .ref (am 9), .int (-1), .int 0, .int 0, .int (-1), .int 0, .ref (am 10), .int 0, .ref (am 11), .ref (am 12), .ref (am 13), .ref (am 14), .long 0, .ref (am 15), .ref (am 16), .ref (am 17), .ref (am 18)])), ((am 9), .inl (G.2.2 0, 110, .inl (fun _ => 0)))] := hD
  refine lv_aload_n hx hb dL_law_527 rfl (lv_at hl 1 rfl) ?_
  refine lv_aload_n hx hb dL_law_528 rfl (lv_at hl 3 rfl) ?_
  refine lv_iload_n hx hb dL_law_529 rfl (lv_at hl 0 rfl) ?_
  refine lv_iconst (v := 1) hx hb dL_law_530 (by decide) ?_
  refine gq_iadd hx hb 1 (by decide +kernel) dL_law_531 ?_
  refine va_sld hx hb hX_ hbl hbA hS (by unfold vp_in; decide +kernel) dL_law_532 ?_
  refine lv_aload_n hx hb dL_law_533 rfl (lv_at hl 3 rfl) ?_
  refine lv_iload_n hx hb dL_law_534 rfl (lv_at hl 0 rfl) ?_
  refine lv_iconst (v := 2) hx hb dL_law_535 (by decide) ?_
  refine gq_iadd hx hb 2 (by decide +kernel) dL_law_536 ?_
  refine va_sld hx hb hX_ hbl hbA hS (by unfold vp_in; decide +kernel) dL_law_537 ?_
  refine lv_aload_n hx hb dL_law_538 rfl (lv_at hl 3 rfl) ?_
  refine lv_iload_n hx hb dL_law_539 rfl (lv_at hl 0 rfl) ?_
  refine lv_iconst (v := 3) hx hb dL_law_540 (by decide) ?_
  refine gq_iadd hx hb 3 (by decide +kernel) dL_law_541 ?_
  refine va_sld hx hb hX_ hbl hbA hS (by unfold vp_in; decide +kernel) dL_law_542 ?_
  have hPc := hP.sub (ws' := [(qm, .inr (12, [.ref (am 0), .int 0, .int 0, .ref (am 1), .ref (am 2), .ref (am 3), .ref (am 4), .ref (am 5), .int 0, .int 0, .int 0, .int 0, .int 0, .int 0, .int 0, .ref (am 6), .int 0, .ref (am 7), .int 0, .ref (am 8), .ref (am 9), .int (-1), .int 0, .int 0, .int (-1), .int 0, .ref (am 10), .int 0, .ref (am 11), .ref (am 12), .ref (am 13), .ref (am 14), .long 0, .ref (am 15), .ref (am 16), .ref (am 17), .ref (am 18)])), ((am 9), .inl (G.2.2 0, 110, .inl (fun _ => 0)))]) [0, 1] rfl
  have hDc := hD.sub (ws' := [(qm, .inr (12, [.ref (am 0), .int 0, .int 0, .ref (am 1), .ref (am 2), .ref (am 3), .ref (am 4), .ref (am 5), .int 0, .int 0, .int 0, .int 0, .int 0, .int 0, .int 0, .ref (am 6), .int 0, .ref (am 7), .int 0, .ref (am 8), .ref (am 9), .int (-1), .int 0, .int 0, .int (-1), .int 0, .ref (am 10), .int 0, .ref (am 11), .ref (am 12), .ref (am 13), .ref (am 14), .long 0, .ref (am 15), .ref (am 16), .ref (am 17), .ref (am 18)])), ((am 9), .inl (G.2.2 0, 110, .inl (fun _ => 0)))]) [0, 1] (by decide) rfl
  refine gq_callI (wr := []) (va_runV (As := [.int (xs (Int32.toNatClampNeg 1)), .int (xs (Int32.toNatClampNeg 2)), .int (xs (Int32.toNatClampNeg 3))]) (rest := [.int (-1)]) ⟨hx, hb, hml, hown, ht⟩ (c_M_play l G H.size qm am (xs (Int32.toNatClampNeg 1)) (xs (Int32.toNatClampNeg 2)) (xs (Int32.toNatClampNeg 3))) (cwV 3 ht (ts_gV wd_1692 wd_1693 wd_1694 wd_134 wd_1695) rfl rfl rfl (by decide +kernel) ⟨Nat.le_of_ble_eq_true rfl, Nat.le_of_ble_eq_true rfl⟩) (gc_preV (ci := 12) (q0 := 0) hK hPc hDc rfl rfl) rfl rfl hl.1 rfl (lv_room (Nat.le_of_ble_eq_true rfl)) dL_law_543 ⟨Nat.le_of_ble_eq_true rfl, Nat.le_of_ble_eq_true rfl⟩) hP hD hS hA [0, 1] [] rfl rfl (by decide) (by decide) (fun r u H locs hw hP hD hS => ?_)
  have hw : r = (-1) := hw
  subst hw
  have hP : va_P (gg_D G) classes [] H := hP
  have hD : va_D A [] := hD
  refine lv_icmp_eq (tgt := 1095) hx hb dL_law_546 (by decide) (fun _ => ?_) (fun c0 => absurd (by decide +kernel) c0)
  refine lv_iinc (v := 6) (lv' := [(3, .int 6), (2, .ref qm), (1, .ref qx), (0, .ref b)]) hx hb dL_law_1095 hl (k := 0) rfl (by decide +kernel) (by decide) rfl (fun ls hl => ?_)
  refine lv_goto (tgt := 18) hx hb dL_law_1098 (by decide) ?_
  refine lv_iload_n hx hb dL_law_18 rfl (lv_at hl 0 rfl) ?_
  refine lv_aload_n hx hb dL_law_19 rfl (lv_at hl 3 rfl) ?_
  refine va_slen hx hb hX_ hbl hbA hS dL_law_20 ?_
  refine W.eq (g2 := F0 m 21 ls [.int 6, .int 6]) rfl ?_
  refine lv_bipush (v := 6) hx hb dL_law_21 (by decide +kernel) ?_
  refine gq_isub hx hb 0 (by decide +kernel) dL_law_23 ?_
  refine lv_icmp_gt (tgt := 1101) hx hb dL_law_24 (by decide) (fun _ => ?_) (fun c0 => absurd (by decide +kernel) c0)
  refine lv_iconst (v := 1) hx hb dL_law_1101 (by decide) ?_
  refine va_forget (fun q hq => hA2 _ (hS.2.2 q hq)) ?_
  refine W.widen (k := 600000) (n := 7302249) (Nat.le_of_ble_eq_true rfl) (Nat.le_of_ble_eq_true rfl) ?_
  exact lw_ret hx hb hr hlocks dL_law_1102
set_option maxHeartbeats 4000000 in
set_option maxRecDepth 100000 in
theorem lw_c13 {p : Program} {l : Launch} {e : Env} {s : State} {m : MethodId} {below : List Frame} {meth : Method} {c : Code} {b : Nat} {xs : Nat → Int32} (C0 : lw_At p s m meth c b 6 xs) {G : gg_T} {K V : Nat → Nat} {A : Nat → Prop} (hA : ∀ q : Nat, s.heap.size ≤ q → A q) (hA2 : ∀ q : Nat, A q → s.heap.size ≤ q) (hK : gg_K G s) (hX : sx_G K V A s s.heap) {qx qm : Nat} {ax am : Nat → Nat} {fs fo : Nat → Int32} {fr fi : Nat → Option Nat} (pr0 : fr 0 = some (ax 37)) (pi0 : fi 0 = some (ax 43)) (pi1 : fi 1 = some (ax 64)) (pi2 : fi 2 = some (ax 85)) (pi3 : fi 3 = some (ax 106)) {H : Heap} {locs : List Loc} {ls : Array Slot} (hP : va_P (gg_D G) classes (lw_W G qx qm ax am fs fo fr fi) H) (hD : va_D A (lw_W G qx qm ax am fs fo fr fi)) (hS : va_S A s.heap H locs) (hl : lv_has ls 4 [(3, .int 0), (2, .ref qm), (1, .ref qx), (0, .ref b)]) : W p l e room_1 s m #[Value.ref b] below meth c H locs 430 10514 (lw_Z below #[Value.ref b] s) (F0 m 551 ls []) := by
  obtain ⟨hx, hb, hr, hml, hown, hts, hX_, hbl, hlocks, hgv⟩ := id C0
  have ht : ∀ w ∈ tb_L, w.before #[Value.ref b] s = true := fun w h => hts w (List.mem_filter.mp h).1
  have hbA : ¬ A b := fun h => Nat.not_le.mpr hbl (hA2 b h)
  have hP := hP.sub (ws' := [(qx, .inr (11, [.ref (ax 0), .ref (ax 1), .ref (ax 2), .ref (ax 3), .ref (ax 4), .ref (ax 5), .ref (ax 6), .ref (ax 7), .ref (ax 8), .ref (ax 9), .ref (ax 10), .ref (ax 11), .ref (ax 12), .int 0, .int (-1), .int 0])), ((ax 1), .inr (9, [.int 0, .int 0, .int 0, .int 0, .ref (ax 14), .ref (ax 15), .ref (ax 16), .ref (ax 17), .ref (ax 18)])), (qm, .inr (12, [.ref (am 0), .int 0, .int 0, .ref (am 1), .ref (am 2), .ref (am 3), .ref (am 4), .ref (am 5), .int 0, .int 0, .int 0, .int 0, .int 0, .int 0, .int 0, .ref (am 6), .int 0, .ref (am 7), .int 0, .ref (am 8), .ref (am 9), .int (-1), .int 0, .int 0, .int (-1), .int 0, .ref (am 10), .int 0, .ref (am 11), .ref (am 12), .ref (am 13), .ref (am 14), .long 0, .ref (am 15), .ref (am 16), .ref (am 17), .ref (am 18)])), ((am 9), .inl (G.2.2 0, 110, .inl (fun _ => 0)))]) [0, 3, 113, 118] rfl
  have hD := hD.sub (ws' := [(qx, .inr (11, [.ref (ax 0), .ref (ax 1), .ref (ax 2), .ref (ax 3), .ref (ax 4), .ref (ax 5), .ref (ax 6), .ref (ax 7), .ref (ax 8), .ref (ax 9), .ref (ax 10), .ref (ax 11), .ref (ax 12), .int 0, .int (-1), .int 0])), ((ax 1), .inr (9, [.int 0, .int 0, .int 0, .int 0, .ref (ax 14), .ref (ax 15), .ref (ax 16), .ref (ax 17), .ref (ax 18)])), (qm, .inr (12, [.ref (am 0), .int 0, .int 0, .ref (am 1), .ref (am 2), .ref (am 3), .ref (am 4), .ref (am 5), .int 0, .int 0, .int 0, .int 0, .int 0, .int 0, .int 0, .ref (am 6), .int 0, .ref (am 7), .int 0, .ref (am 8), .ref (am 9), .int (-1), .int 0, .int 0, .int (-1), .int 0, .ref (am 10), .int 0, .ref (am 11), .ref (am 12), .ref (am 13), .ref (am 14), .long 0, .ref (am 15), .ref (am 16), .ref (am 17), .ref (am 18)])), ((am 9), .inl (G.2.2 0, 110, .inl (fun _ => 0)))]) [0, 3, 113, 118] (by decide) rfl
  refine lv_aload_n hx hb dL_law_551 rfl (lv_at hl 2 rfl) ?_
  refine lv_aload_n hx hb dL_law_552 rfl (lv_at hl 3 rfl) ?_
  refine lv_iload_n hx hb dL_law_553 rfl (lv_at hl 0 rfl) ?_
  refine lv_iconst (v := 1) hx hb dL_law_554 (by decide) ?_
  refine gq_iadd hx hb 1 (by decide +kernel) dL_law_555 ?_
  refine va_sld hx hb hX_ hbl hbA hS (by unfold vp_in; decide +kernel) dL_law_556 ?_
  have hPc := hP.sub (ws' := [(qx, .inr (11, [.ref (ax 0), .ref (ax 1), .ref (ax 2), .ref (ax 3), .ref (ax 4), .ref (ax 5), .ref (ax 6), .ref (ax 7), .ref (ax 8), .ref (ax 9), .ref (ax 10), .ref (ax 11), .ref (ax 12), .int 0, .int (-1), .int 0])), ((ax 1), .inr (9, [.int 0, .int 0, .int 0, .int 0, .ref (ax 14), .ref (ax 15), .ref (ax 16), .ref (ax 17), .ref (ax 18)]))]) [0, 1] rfl
  have hDc := hD.sub (ws' := [(qx, .inr (11, [.ref (ax 0), .ref (ax 1), .ref (ax 2), .ref (ax 3), .ref (ax 4), .ref (ax 5), .ref (ax 6), .ref (ax 7), .ref (ax 8), .ref (ax 9), .ref (ax 10), .ref (ax 11), .ref (ax 12), .int 0, .int (-1), .int 0])), ((ax 1), .inr (9, [.int 0, .int 0, .int 0, .int 0, .ref (ax 14), .ref (ax 15), .ref (ax 16), .ref (ax 17), .ref (ax 18)]))]) [0, 1] (by decide) rfl
  refine gq_callI (wr := [(qm, .inr (12, [.ref (am 0), .int 0, .int 0, .ref (am 1), .ref (am 2), .ref (am 3), .ref (am 4), .ref (am 5), .int 0, .int 0, .int 0, .int 0, .int 0, .int 0, .int 0, .ref (am 6), .int 0, .ref (am 7), .int 0, .ref (am 8), .ref (am 9), .int (-1), .int 0, .int 0, .int (-1), .int 0, .ref (am 10), .int 0, .ref (am 11), .ref (am 12), .ref (am 13), .ref (am 14), .long 0, .ref (am 15), .ref (am 16), .ref (am 17), .ref (am 18)])), ((am 9), .inl (G.2.2 0, 110, .inl (fun _ => 0)))]) (va_runV (As := [.int (xs (Int32.toNatClampNeg 1))]) (rest := []) ⟨hx, hb, hml, hown, ht⟩ (c_S_fire l G H.size qx ax (xs (Int32.toNatClampNeg 1))) (cwV 1 ht (ts_gV wd_964 wd_965 wd_966 wd_122 wd_967) rfl rfl rfl (by decide +kernel) ⟨Nat.le_of_ble_eq_true rfl, Nat.le_of_ble_eq_true rfl⟩) (gc_preV (ci := 11) (q0 := 0) hK hPc hDc rfl rfl) rfl rfl hl.1 rfl (lv_room (Nat.le_of_ble_eq_true rfl)) dL_law_557 ⟨Nat.le_of_ble_eq_true rfl, Nat.le_of_ble_eq_true rfl⟩) hP hD hS hA [0, 1] [2, 3] rfl rfl (by decide) (by decide) (fun r u H locs hw hP hD hS => ?_)
  have hw : r = (-1) := hw
  subst hw
  have hP : va_P (gg_D G) classes [(qm, .inr (12, [.ref (am 0), .int 0, .int 0, .ref (am 1), .ref (am 2), .ref (am 3), .ref (am 4), .ref (am 5), .int 0, .int 0, .int 0, .int 0, .int 0, .int 0, .int 0, .ref (am 6), .int 0, .ref (am 7), .int 0, .ref (am 8), .ref (am 9), .int (-1), .int 0, .int 0, .int (-1), .int 0, .ref (am 10), .int 0, .ref (am 11), .ref (am 12), .ref (am 13), .ref (am 14), .long 0, .ref (am 15), .ref (am 16), .ref (am 17), .ref (am 18)])), ((am 9), .inl (G.2.2 0, 110, .inl (fun _ => 0)))] H := hP
  have hD : va_D A [(qm, .inr (12, [.ref (am 0), .int 0, .int 0, .ref (am 1), .ref (am 2), .ref (am 3), .ref (am 4), .ref (am 5), .int 0, .int 0, .int 0, .int 0, .int 0, .int 0, .int 0, .ref (am 6), .int 0, .ref (am 7), .int 0, .ref (am 8), .ref (am 9), .int (-1), .int 0, .int 0, .int (-1), .int 0, .ref (am 10), .int 0, .ref (am 11), .ref (am 12), .ref (am 13), .ref (am 14), .long 0, .ref (am 15), .ref (am 16), .ref (am 17), .ref (am 18)])), ((am 9), .inl (G.2.2 0, 110, .inl (fun _ => 0)))] := hD
  refine lv_aload_n hx hb dL_law_560 rfl (lv_at hl 1 rfl) ?_
  refine lv_aload_n hx hb dL_law_561 rfl (lv_at hl 3 rfl) ?_
  refine lv_iload_n hx hb dL_law_562 rfl (lv_at hl 0 rfl) ?_
  refine lv_iconst (v := 1) hx hb dL_law_563 (by decide) ?_
  refine gq_iadd hx hb 1 (by decide +kernel) dL_law_564 ?_
  refine va_sld hx hb hX_ hbl hbA hS (by unfold vp_in; decide +kernel) dL_law_565 ?_
  have hPc := hP.sub (ws' := [(qm, .inr (12, [.ref (am 0), .int 0, .int 0, .ref (am 1), .ref (am 2), .ref (am 3), .ref (am 4), .ref (am 5), .int 0, .int 0, .int 0, .int 0, .int 0, .int 0, .int 0, .ref (am 6), .int 0, .ref (am 7), .int 0, .ref (am 8), .ref (am 9), .int (-1), .int 0, .int 0, .int (-1), .int 0, .ref (am 10), .int 0, .ref (am 11), .ref (am 12), .ref (am 13), .ref (am 14), .long 0, .ref (am 15), .ref (am 16), .ref (am 17), .ref (am 18)])), ((am 9), .inl (G.2.2 0, 110, .inl (fun _ => 0)))]) [0, 1] rfl
  have hDc := hD.sub (ws' := [(qm, .inr (12, [.ref (am 0), .int 0, .int 0, .ref (am 1), .ref (am 2), .ref (am 3), .ref (am 4), .ref (am 5), .int 0, .int 0, .int 0, .int 0, .int 0, .int 0, .int 0, .ref (am 6), .int 0, .ref (am 7), .int 0, .ref (am 8), .ref (am 9), .int (-1), .int 0, .int 0, .int (-1), .int 0, .ref (am 10), .int 0, .ref (am 11), .ref (am 12), .ref (am 13), .ref (am 14), .long 0, .ref (am 15), .ref (am 16), .ref (am 17), .ref (am 18)])), ((am 9), .inl (G.2.2 0, 110, .inl (fun _ => 0)))]) [0, 1] (by decide) rfl
  refine gq_callI (wr := []) (va_runV (As := [.int (xs (Int32.toNatClampNeg 1))]) (rest := [.int (-1)]) ⟨hx, hb, hml, hown, ht⟩ (c_M_fire l G H.size qm am (xs (Int32.toNatClampNeg 1))) (cwV 1 ht (ts_gV wd_1712 wd_1713 wd_1714 wd_134 wd_1715) rfl rfl rfl (by decide +kernel) ⟨Nat.le_of_ble_eq_true rfl, Nat.le_of_ble_eq_true rfl⟩) (gc_preV (ci := 12) (q0 := 0) hK hPc hDc rfl rfl) rfl rfl hl.1 rfl (lv_room (Nat.le_of_ble_eq_true rfl)) dL_law_566 ⟨Nat.le_of_ble_eq_true rfl, Nat.le_of_ble_eq_true rfl⟩) hP hD hS hA [0, 1] [] rfl rfl (by decide) (by decide) (fun r u H locs hw hP hD hS => ?_)
  have hw : r = (-1) := hw
  subst hw
  have hP : va_P (gg_D G) classes [] H := hP
  have hD : va_D A [] := hD
  refine lv_icmp_eq (tgt := 1095) hx hb dL_law_569 (by decide) (fun _ => ?_) (fun c0 => absurd (by decide +kernel) c0)
  refine lv_iinc (v := 6) (lv' := [(3, .int 6), (2, .ref qm), (1, .ref qx), (0, .ref b)]) hx hb dL_law_1095 hl (k := 0) rfl (by decide +kernel) (by decide) rfl (fun ls hl => ?_)
  refine lv_goto (tgt := 18) hx hb dL_law_1098 (by decide) ?_
  refine lv_iload_n hx hb dL_law_18 rfl (lv_at hl 0 rfl) ?_
  refine lv_aload_n hx hb dL_law_19 rfl (lv_at hl 3 rfl) ?_
  refine va_slen hx hb hX_ hbl hbA hS dL_law_20 ?_
  refine W.eq (g2 := F0 m 21 ls [.int 6, .int 6]) rfl ?_
  refine lv_bipush (v := 6) hx hb dL_law_21 (by decide +kernel) ?_
  refine gq_isub hx hb 0 (by decide +kernel) dL_law_23 ?_
  refine lv_icmp_gt (tgt := 1101) hx hb dL_law_24 (by decide) (fun _ => ?_) (fun c0 => absurd (by decide +kernel) c0)
  refine lv_iconst (v := 1) hx hb dL_law_1101 (by decide) ?_
  refine va_forget (fun q hq => hA2 _ (hS.2.2 q hq)) ?_
  refine W.widen (k := 600000) (n := 7302249) (Nat.le_of_ble_eq_true rfl) (Nat.le_of_ble_eq_true rfl) ?_
  exact lw_ret hx hb hr hlocks dL_law_1102
set_option maxHeartbeats 4000000 in
set_option maxRecDepth 100000 in
theorem lw_c14 {p : Program} {l : Launch} {e : Env} {s : State} {m : MethodId} {below : List Frame} {meth : Method} {c : Code} {b : Nat} {xs : Nat → Int32} (C0 : lw_At p s m meth c b 6 xs) {G : gg_T} {K V : Nat → Nat} {A : Nat → Prop} (hA : ∀ q : Nat, s.heap.size ≤ q → A q) (hA2 : ∀ q : Nat, A q → s.heap.size ≤ q) (hK : gg_K G s) (hX : sx_G K V A s s.heap) {qx qm : Nat} {ax am : Nat → Nat} {fs fo : Nat → Int32} {fr fi : Nat → Option Nat} (pr0 : fr 0 = some (ax 37)) (pi0 : fi 0 = some (ax 43)) (pi1 : fi 1 = some (ax 64)) (pi2 : fi 2 = some (ax 85)) (pi3 : fi 3 = some (ax 106)) {H : Heap} {locs : List Loc} {ls : Array Slot} (hP : va_P (gg_D G) classes (lw_W G qx qm ax am fs fo fr fi) H) (hD : va_D A (lw_W G qx qm ax am fs fo fr fi)) (hS : va_S A s.heap H locs) (hl : lv_has ls 4 [(3, .int 0), (2, .ref qm), (1, .ref qx), (0, .ref b)]) : W p l e room_1 s m #[Value.ref b] below meth c H locs 430 10514 (lw_Z below #[Value.ref b] s) (F0 m 574 ls []) := by
  obtain ⟨hx, hb, hr, hml, hown, hts, hX_, hbl, hlocks, hgv⟩ := id C0
  have ht : ∀ w ∈ tb_L, w.before #[Value.ref b] s = true := fun w h => hts w (List.mem_filter.mp h).1
  have hbA : ¬ A b := fun h => Nat.not_le.mpr hbl (hA2 b h)
  have hP := hP.sub (ws' := [(qx, .inr (11, [.ref (ax 0), .ref (ax 1), .ref (ax 2), .ref (ax 3), .ref (ax 4), .ref (ax 5), .ref (ax 6), .ref (ax 7), .ref (ax 8), .ref (ax 9), .ref (ax 10), .ref (ax 11), .ref (ax 12), .int 0, .int (-1), .int 0])), ((ax 5), .inr (3, [.ref (ax 33), .int 0, .int 0])), (qm, .inr (12, [.ref (am 0), .int 0, .int 0, .ref (am 1), .ref (am 2), .ref (am 3), .ref (am 4), .ref (am 5), .int 0, .int 0, .int 0, .int 0, .int 0, .int 0, .int 0, .ref (am 6), .int 0, .ref (am 7), .int 0, .ref (am 8), .ref (am 9), .int (-1), .int 0, .int 0, .int (-1), .int 0, .ref (am 10), .int 0, .ref (am 11), .ref (am 12), .ref (am 13), .ref (am 14), .long 0, .ref (am 15), .ref (am 16), .ref (am 17), .ref (am 18)]))]) [0, 21, 113] rfl
  have hD := hD.sub (ws' := [(qx, .inr (11, [.ref (ax 0), .ref (ax 1), .ref (ax 2), .ref (ax 3), .ref (ax 4), .ref (ax 5), .ref (ax 6), .ref (ax 7), .ref (ax 8), .ref (ax 9), .ref (ax 10), .ref (ax 11), .ref (ax 12), .int 0, .int (-1), .int 0])), ((ax 5), .inr (3, [.ref (ax 33), .int 0, .int 0])), (qm, .inr (12, [.ref (am 0), .int 0, .int 0, .ref (am 1), .ref (am 2), .ref (am 3), .ref (am 4), .ref (am 5), .int 0, .int 0, .int 0, .int 0, .int 0, .int 0, .int 0, .ref (am 6), .int 0, .ref (am 7), .int 0, .ref (am 8), .ref (am 9), .int (-1), .int 0, .int 0, .int (-1), .int 0, .ref (am 10), .int 0, .ref (am 11), .ref (am 12), .ref (am 13), .ref (am 14), .long 0, .ref (am 15), .ref (am 16), .ref (am 17), .ref (am 18)]))]) [0, 21, 113] (by decide) rfl
  refine lv_aload_n hx hb dL_law_574 rfl (lv_at hl 2 rfl) ?_
  have hPc := hP.sub (ws' := [(qx, .inr (11, [.ref (ax 0), .ref (ax 1), .ref (ax 2), .ref (ax 3), .ref (ax 4), .ref (ax 5), .ref (ax 6), .ref (ax 7), .ref (ax 8), .ref (ax 9), .ref (ax 10), .ref (ax 11), .ref (ax 12), .int 0, .int (-1), .int 0])), ((ax 5), .inr (3, [.ref (ax 33), .int 0, .int 0]))]) [0, 1] rfl
  have hDc := hD.sub (ws' := [(qx, .inr (11, [.ref (ax 0), .ref (ax 1), .ref (ax 2), .ref (ax 3), .ref (ax 4), .ref (ax 5), .ref (ax 6), .ref (ax 7), .ref (ax 8), .ref (ax 9), .ref (ax 10), .ref (ax 11), .ref (ax 12), .int 0, .int (-1), .int 0])), ((ax 5), .inr (3, [.ref (ax 33), .int 0, .int 0]))]) [0, 1] (by decide) rfl
  refine gq_callI (wr := [(qm, .inr (12, [.ref (am 0), .int 0, .int 0, .ref (am 1), .ref (am 2), .ref (am 3), .ref (am 4), .ref (am 5), .int 0, .int 0, .int 0, .int 0, .int 0, .int 0, .int 0, .ref (am 6), .int 0, .ref (am 7), .int 0, .ref (am 8), .ref (am 9), .int (-1), .int 0, .int 0, .int (-1), .int 0, .ref (am 10), .int 0, .ref (am 11), .ref (am 12), .ref (am 13), .ref (am 14), .long 0, .ref (am 15), .ref (am 16), .ref (am 17), .ref (am 18)]))]) (va_runV (As := []) (rest := []) ⟨hx, hb, hml, hown, ht⟩ (c_S_undo l G H.size qx ax) (cwV 0 ht (ts_gV wd_972 wd_973 wd_974 wd_122 wd_975) rfl rfl rfl (by decide +kernel) ⟨Nat.le_of_ble_eq_true rfl, Nat.le_of_ble_eq_true rfl⟩) (gc_preV (ci := 11) (q0 := 0) hK hPc hDc rfl rfl) rfl rfl hl.1 rfl (lv_room (Nat.le_of_ble_eq_true rfl)) dL_law_575 ⟨Nat.le_of_ble_eq_true rfl, Nat.le_of_ble_eq_true rfl⟩) hP hD hS hA [0, 1] [2] rfl rfl (by decide) (by decide) (fun r u H locs hw hP hD hS => ?_)
  have hw : r = (-1) := hw
  subst hw
  have hP : va_P (gg_D G) classes [(qm, .inr (12, [.ref (am 0), .int 0, .int 0, .ref (am 1), .ref (am 2), .ref (am 3), .ref (am 4), .ref (am 5), .int 0, .int 0, .int 0, .int 0, .int 0, .int 0, .int 0, .ref (am 6), .int 0, .ref (am 7), .int 0, .ref (am 8), .ref (am 9), .int (-1), .int 0, .int 0, .int (-1), .int 0, .ref (am 10), .int 0, .ref (am 11), .ref (am 12), .ref (am 13), .ref (am 14), .long 0, .ref (am 15), .ref (am 16), .ref (am 17), .ref (am 18)]))] H := hP
  have hD : va_D A [(qm, .inr (12, [.ref (am 0), .int 0, .int 0, .ref (am 1), .ref (am 2), .ref (am 3), .ref (am 4), .ref (am 5), .int 0, .int 0, .int 0, .int 0, .int 0, .int 0, .int 0, .ref (am 6), .int 0, .ref (am 7), .int 0, .ref (am 8), .ref (am 9), .int (-1), .int 0, .int 0, .int (-1), .int 0, .ref (am 10), .int 0, .ref (am 11), .ref (am 12), .ref (am 13), .ref (am 14), .long 0, .ref (am 15), .ref (am 16), .ref (am 17), .ref (am 18)]))] := hD
  refine lv_aload_n hx hb dL_law_578 rfl (lv_at hl 1 rfl) ?_
  have hPc := hP.sub (ws' := [(qm, .inr (12, [.ref (am 0), .int 0, .int 0, .ref (am 1), .ref (am 2), .ref (am 3), .ref (am 4), .ref (am 5), .int 0, .int 0, .int 0, .int 0, .int 0, .int 0, .int 0, .ref (am 6), .int 0, .ref (am 7), .int 0, .ref (am 8), .ref (am 9), .int (-1), .int 0, .int 0, .int (-1), .int 0, .ref (am 10), .int 0, .ref (am 11), .ref (am 12), .ref (am 13), .ref (am 14), .long 0, .ref (am 15), .ref (am 16), .ref (am 17), .ref (am 18)]))]) [0] rfl
  have hDc := hD.sub (ws' := [(qm, .inr (12, [.ref (am 0), .int 0, .int 0, .ref (am 1), .ref (am 2), .ref (am 3), .ref (am 4), .ref (am 5), .int 0, .int 0, .int 0, .int 0, .int 0, .int 0, .int 0, .ref (am 6), .int 0, .ref (am 7), .int 0, .ref (am 8), .ref (am 9), .int (-1), .int 0, .int 0, .int (-1), .int 0, .ref (am 10), .int 0, .ref (am 11), .ref (am 12), .ref (am 13), .ref (am 14), .long 0, .ref (am 15), .ref (am 16), .ref (am 17), .ref (am 18)]))]) [0] (by decide) rfl
  refine gq_callI (wr := []) (va_runV (As := []) (rest := [.int (-1)]) ⟨hx, hb, hml, hown, ht⟩ (c_M_undo l G H.size qm am) (cwV 0 ht (ts_gV wd_1611 wd_1612 wd_1613 wd_134 wd_1614) rfl rfl rfl (by decide +kernel) ⟨Nat.le_of_ble_eq_true rfl, Nat.le_of_ble_eq_true rfl⟩) (gc_preV (ci := 12) (q0 := 0) hK hPc hDc rfl rfl) rfl rfl hl.1 rfl (lv_room (Nat.le_of_ble_eq_true rfl)) dL_law_579 ⟨Nat.le_of_ble_eq_true rfl, Nat.le_of_ble_eq_true rfl⟩) hP hD hS hA [0] [] rfl rfl (by decide) (by decide) (fun r u H locs hw hP hD hS => ?_)
  have hw : r = (-1) := hw
  subst hw
  have hP : va_P (gg_D G) classes [] H := hP
  have hD : va_D A [] := hD
  refine lv_icmp_eq (tgt := 1095) hx hb dL_law_582 (by decide) (fun _ => ?_) (fun c0 => absurd (by decide +kernel) c0)
  refine lv_iinc (v := 6) (lv' := [(3, .int 6), (2, .ref qm), (1, .ref qx), (0, .ref b)]) hx hb dL_law_1095 hl (k := 0) rfl (by decide +kernel) (by decide) rfl (fun ls hl => ?_)
  refine lv_goto (tgt := 18) hx hb dL_law_1098 (by decide) ?_
  refine lv_iload_n hx hb dL_law_18 rfl (lv_at hl 0 rfl) ?_
  refine lv_aload_n hx hb dL_law_19 rfl (lv_at hl 3 rfl) ?_
  refine va_slen hx hb hX_ hbl hbA hS dL_law_20 ?_
  refine W.eq (g2 := F0 m 21 ls [.int 6, .int 6]) rfl ?_
  refine lv_bipush (v := 6) hx hb dL_law_21 (by decide +kernel) ?_
  refine gq_isub hx hb 0 (by decide +kernel) dL_law_23 ?_
  refine lv_icmp_gt (tgt := 1101) hx hb dL_law_24 (by decide) (fun _ => ?_) (fun c0 => absurd (by decide +kernel) c0)
  refine lv_iconst (v := 1) hx hb dL_law_1101 (by decide) ?_
  refine va_forget (fun q hq => hA2 _ (hS.2.2 q hq)) ?_
  refine W.widen (k := 600000) (n := 7302249) (Nat.le_of_ble_eq_true rfl) (Nat.le_of_ble_eq_true rfl) ?_
  exact lw_ret hx hb hr hlocks dL_law_1102
set_option maxHeartbeats 4000000 in
set_option maxRecDepth 100000 in
theorem lw_c15 {p : Program} {l : Launch} {e : Env} {s : State} {m : MethodId} {below : List Frame} {meth : Method} {c : Code} {b : Nat} {xs : Nat → Int32} (C0 : lw_At p s m meth c b 6 xs) {G : gg_T} {K V : Nat → Nat} {A : Nat → Prop} (hA : ∀ q : Nat, s.heap.size ≤ q → A q) (hA2 : ∀ q : Nat, A q → s.heap.size ≤ q) (hK : gg_K G s) (hX : sx_G K V A s s.heap) {qx qm : Nat} {ax am : Nat → Nat} {fs fo : Nat → Int32} {fr fi : Nat → Option Nat} (pr0 : fr 0 = some (ax 37)) (pi0 : fi 0 = some (ax 43)) (pi1 : fi 1 = some (ax 64)) (pi2 : fi 2 = some (ax 85)) (pi3 : fi 3 = some (ax 106)) {H : Heap} {locs : List Loc} {ls : Array Slot} (hP : va_P (gg_D G) classes (lw_W G qx qm ax am fs fo fr fi) H) (hD : va_D A (lw_W G qx qm ax am fs fo fr fi)) (hS : va_S A s.heap H locs) (hl : lv_has ls 4 [(3, .int 0), (2, .ref qm), (1, .ref qx), (0, .ref b)]) : W p l e room_1 s m #[Value.ref b] below meth c H locs 430 10514 (lw_Z below #[Value.ref b] s) (F0 m 587 ls []) := by
  obtain ⟨hx, hb, hr, hml, hown, hts, hX_, hbl, hlocks, hgv⟩ := id C0
  have ht : ∀ w ∈ tb_L, w.before #[Value.ref b] s = true := fun w h => hts w (List.mem_filter.mp h).1
  have hbA : ¬ A b := fun h => Nat.not_le.mpr hbl (hA2 b h)
  have hP := hP.sub (ws' := [(qx, .inr (11, [.ref (ax 0), .ref (ax 1), .ref (ax 2), .ref (ax 3), .ref (ax 4), .ref (ax 5), .ref (ax 6), .ref (ax 7), .ref (ax 8), .ref (ax 9), .ref (ax 10), .ref (ax 11), .ref (ax 12), .int 0, .int (-1), .int 0])), ((ax 1), .inr (9, [.int 0, .int 0, .int 0, .int 0, .ref (ax 14), .ref (ax 15), .ref (ax 16), .ref (ax 17), .ref (ax 18)])), (qm, .inr (12, [.ref (am 0), .int 0, .int 0, .ref (am 1), .ref (am 2), .ref (am 3), .ref (am 4), .ref (am 5), .int 0, .int 0, .int 0, .int 0, .int 0, .int 0, .int 0, .ref (am 6), .int 0, .ref (am 7), .int 0, .ref (am 8), .ref (am 9), .int (-1), .int 0, .int 0, .int (-1), .int 0, .ref (am 10), .int 0, .ref (am 11), .ref (am 12), .ref (am 13), .ref (am 14), .long 0, .ref (am 15), .ref (am 16), .ref (am 17), .ref (am 18)])), ((am 9), .inl (G.2.2 0, 110, .inl (fun _ => 0)))]) [0, 3, 113, 118] rfl
  have hD := hD.sub (ws' := [(qx, .inr (11, [.ref (ax 0), .ref (ax 1), .ref (ax 2), .ref (ax 3), .ref (ax 4), .ref (ax 5), .ref (ax 6), .ref (ax 7), .ref (ax 8), .ref (ax 9), .ref (ax 10), .ref (ax 11), .ref (ax 12), .int 0, .int (-1), .int 0])), ((ax 1), .inr (9, [.int 0, .int 0, .int 0, .int 0, .ref (ax 14), .ref (ax 15), .ref (ax 16), .ref (ax 17), .ref (ax 18)])), (qm, .inr (12, [.ref (am 0), .int 0, .int 0, .ref (am 1), .ref (am 2), .ref (am 3), .ref (am 4), .ref (am 5), .int 0, .int 0, .int 0, .int 0, .int 0, .int 0, .int 0, .ref (am 6), .int 0, .ref (am 7), .int 0, .ref (am 8), .ref (am 9), .int (-1), .int 0, .int 0, .int (-1), .int 0, .ref (am 10), .int 0, .ref (am 11), .ref (am 12), .ref (am 13), .ref (am 14), .long 0, .ref (am 15), .ref (am 16), .ref (am 17), .ref (am 18)])), ((am 9), .inl (G.2.2 0, 110, .inl (fun _ => 0)))]) [0, 3, 113, 118] (by decide) rfl
  refine lv_aload_n hx hb dL_law_587 rfl (lv_at hl 2 rfl) ?_
  refine lv_aload_n hx hb dL_law_588 rfl (lv_at hl 3 rfl) ?_
  refine lv_iload_n hx hb dL_law_589 rfl (lv_at hl 0 rfl) ?_
  refine lv_iconst (v := 1) hx hb dL_law_590 (by decide) ?_
  refine gq_iadd hx hb 1 (by decide +kernel) dL_law_591 ?_
  refine va_sld hx hb hX_ hbl hbA hS (by unfold vp_in; decide +kernel) dL_law_592 ?_
  refine lv_aload_n hx hb dL_law_593 rfl (lv_at hl 3 rfl) ?_
  refine lv_iload_n hx hb dL_law_594 rfl (lv_at hl 0 rfl) ?_
  refine lv_iconst (v := 2) hx hb dL_law_595 (by decide) ?_
  refine gq_iadd hx hb 2 (by decide +kernel) dL_law_596 ?_
  refine va_sld hx hb hX_ hbl hbA hS (by unfold vp_in; decide +kernel) dL_law_597 ?_
  refine lv_aload_n hx hb dL_law_598 rfl (lv_at hl 3 rfl) ?_
  refine lv_iload_n hx hb dL_law_599 rfl (lv_at hl 0 rfl) ?_
  refine lv_iconst (v := 3) hx hb dL_law_600 (by decide) ?_
  refine gq_iadd hx hb 3 (by decide +kernel) dL_law_601 ?_
  refine va_sld hx hb hX_ hbl hbA hS (by unfold vp_in; decide +kernel) dL_law_602 ?_
  have hPc := hP.sub (ws' := [(qx, .inr (11, [.ref (ax 0), .ref (ax 1), .ref (ax 2), .ref (ax 3), .ref (ax 4), .ref (ax 5), .ref (ax 6), .ref (ax 7), .ref (ax 8), .ref (ax 9), .ref (ax 10), .ref (ax 11), .ref (ax 12), .int 0, .int (-1), .int 0])), ((ax 1), .inr (9, [.int 0, .int 0, .int 0, .int 0, .ref (ax 14), .ref (ax 15), .ref (ax 16), .ref (ax 17), .ref (ax 18)]))]) [0, 1] rfl
  have hDc := hD.sub (ws' := [(qx, .inr (11, [.ref (ax 0), .ref (ax 1), .ref (ax 2), .ref (ax 3), .ref (ax 4), .ref (ax 5), .ref (ax 6), .ref (ax 7), .ref (ax 8), .ref (ax 9), .ref (ax 10), .ref (ax 11), .ref (ax 12), .int 0, .int (-1), .int 0])), ((ax 1), .inr (9, [.int 0, .int 0, .int 0, .int 0, .ref (ax 14), .ref (ax 15), .ref (ax 16), .ref (ax 17), .ref (ax 18)]))]) [0, 1] (by decide) rfl
  refine gq_callI (wr := [(qm, .inr (12, [.ref (am 0), .int 0, .int 0, .ref (am 1), .ref (am 2), .ref (am 3), .ref (am 4), .ref (am 5), .int 0, .int 0, .int 0, .int 0, .int 0, .int 0, .int 0, .ref (am 6), .int 0, .ref (am 7), .int 0, .ref (am 8), .ref (am 9), .int (-1), .int 0, .int 0, .int (-1), .int 0, .ref (am 10), .int 0, .ref (am 11), .ref (am 12), .ref (am 13), .ref (am 14), .long 0, .ref (am 15), .ref (am 16), .ref (am 17), .ref (am 18)])), ((am 9), .inl (G.2.2 0, 110, .inl (fun _ => 0)))]) (va_runV (As := [.int (xs (Int32.toNatClampNeg 1)), .int (xs (Int32.toNatClampNeg 2)), .int (xs (Int32.toNatClampNeg 3))]) (rest := []) ⟨hx, hb, hml, hown, ht⟩ (c_S_ahead l G H.size qx ax (xs (Int32.toNatClampNeg 1)) (xs (Int32.toNatClampNeg 2)) (xs (Int32.toNatClampNeg 3))) (cwV 3 ht (ts_gV wd_980 wd_981 wd_982 wd_122 wd_983) rfl rfl rfl (by decide +kernel) ⟨Nat.le_of_ble_eq_true rfl, Nat.le_of_ble_eq_true rfl⟩) (gc_preV (ci := 11) (q0 := 0) hK hPc hDc rfl rfl) rfl rfl hl.1 rfl (lv_room (Nat.le_of_ble_eq_true rfl)) dL_law_603 ⟨Nat.le_of_ble_eq_true rfl, Nat.le_of_ble_eq_true rfl⟩) hP hD hS hA [0, 1] [2, 3] rfl rfl (by decide) (by decide) (fun r u H locs hw hP hD hS => ?_)
  have hw : r = (-1000) := hw
  subst hw
  have hP : va_P (gg_D G) classes [(qm, .inr (12, [.ref (am 0), .int 0, .int 0, .ref (am 1), .ref (am 2), .ref (am 3), .ref (am 4), .ref (am 5), .int 0, .int 0, .int 0, .int 0, .int 0, .int 0, .int 0, .ref (am 6), .int 0, .ref (am 7), .int 0, .ref (am 8), .ref (am 9), .int (-1), .int 0, .int 0, .int (-1), .int 0, .ref (am 10), .int 0, .ref (am 11), .ref (am 12), .ref (am 13), .ref (am 14), .long 0, .ref (am 15), .ref (am 16), .ref (am 17), .ref (am 18)])), ((am 9), .inl (G.2.2 0, 110, .inl (fun _ => 0)))] H := hP
  have hD : va_D A [(qm, .inr (12, [.ref (am 0), .int 0, .int 0, .ref (am 1), .ref (am 2), .ref (am 3), .ref (am 4), .ref (am 5), .int 0, .int 0, .int 0, .int 0, .int 0, .int 0, .int 0, .ref (am 6), .int 0, .ref (am 7), .int 0, .ref (am 8), .ref (am 9), .int (-1), .int 0, .int 0, .int (-1), .int 0, .ref (am 10), .int 0, .ref (am 11), .ref (am 12), .ref (am 13), .ref (am 14), .long 0, .ref (am 15), .ref (am 16), .ref (am 17), .ref (am 18)])), ((am 9), .inl (G.2.2 0, 110, .inl (fun _ => 0)))] := hD
  refine lv_aload_n hx hb dL_law_606 rfl (lv_at hl 1 rfl) ?_
  refine lv_aload_n hx hb dL_law_607 rfl (lv_at hl 3 rfl) ?_
  refine lv_iload_n hx hb dL_law_608 rfl (lv_at hl 0 rfl) ?_
  refine lv_iconst (v := 1) hx hb dL_law_609 (by decide) ?_
  refine gq_iadd hx hb 1 (by decide +kernel) dL_law_610 ?_
  refine va_sld hx hb hX_ hbl hbA hS (by unfold vp_in; decide +kernel) dL_law_611 ?_
  refine lv_aload_n hx hb dL_law_612 rfl (lv_at hl 3 rfl) ?_
  refine lv_iload_n hx hb dL_law_613 rfl (lv_at hl 0 rfl) ?_
  refine lv_iconst (v := 2) hx hb dL_law_614 (by decide) ?_
  refine gq_iadd hx hb 2 (by decide +kernel) dL_law_615 ?_
  refine va_sld hx hb hX_ hbl hbA hS (by unfold vp_in; decide +kernel) dL_law_616 ?_
  refine lv_aload_n hx hb dL_law_617 rfl (lv_at hl 3 rfl) ?_
  refine lv_iload_n hx hb dL_law_618 rfl (lv_at hl 0 rfl) ?_
  refine lv_iconst (v := 3) hx hb dL_law_619 (by decide) ?_
  refine gq_iadd hx hb 3 (by decide +kernel) dL_law_620 ?_
  refine va_sld hx hb hX_ hbl hbA hS (by unfold vp_in; decide +kernel) dL_law_621 ?_
  have hPc := hP.sub (ws' := [(qm, .inr (12, [.ref (am 0), .int 0, .int 0, .ref (am 1), .ref (am 2), .ref (am 3), .ref (am 4), .ref (am 5), .int 0, .int 0, .int 0, .int 0, .int 0, .int 0, .int 0, .ref (am 6), .int 0, .ref (am 7), .int 0, .ref (am 8), .ref (am 9), .int (-1), .int 0, .int 0, .int (-1), .int 0, .ref (am 10), .int 0, .ref (am 11), .ref (am 12), .ref (am 13), .ref (am 14), .long 0, .ref (am 15), .ref (am 16), .ref (am 17), .ref (am 18)])), ((am 9), .inl (G.2.2 0, 110, .inl (fun _ => 0)))]) [0, 1] rfl
  have hDc := hD.sub (ws' := [(qm, .inr (12, [.ref (am 0), .int 0, .int 0, .ref (am 1), .ref (am 2), .ref (am 3), .ref (am 4), .ref (am 5), .int 0, .int 0, .int 0, .int 0, .int 0, .int 0, .int 0, .ref (am 6), .int 0, .ref (am 7), .int 0, .ref (am 8), .ref (am 9), .int (-1), .int 0, .int 0, .int (-1), .int 0, .ref (am 10), .int 0, .ref (am 11), .ref (am 12), .ref (am 13), .ref (am 14), .long 0, .ref (am 15), .ref (am 16), .ref (am 17), .ref (am 18)])), ((am 9), .inl (G.2.2 0, 110, .inl (fun _ => 0)))]) [0, 1] (by decide) rfl
  refine gq_callI (wr := []) (va_runV (As := [.int (xs (Int32.toNatClampNeg 1)), .int (xs (Int32.toNatClampNeg 2)), .int (xs (Int32.toNatClampNeg 3))]) (rest := [.int (-1000)]) ⟨hx, hb, hml, hown, ht⟩ (c_M_ahead l G H.size qm am (xs (Int32.toNatClampNeg 1)) (xs (Int32.toNatClampNeg 2)) (xs (Int32.toNatClampNeg 3))) (cwV 3 ht (ts_gV wd_1716 wd_1717 wd_1718 wd_134 wd_1719) rfl rfl rfl (by decide +kernel) ⟨Nat.le_of_ble_eq_true rfl, Nat.le_of_ble_eq_true rfl⟩) (gc_preV (ci := 12) (q0 := 0) hK hPc hDc rfl rfl) rfl rfl hl.1 rfl (lv_room (Nat.le_of_ble_eq_true rfl)) dL_law_622 ⟨Nat.le_of_ble_eq_true rfl, Nat.le_of_ble_eq_true rfl⟩) hP hD hS hA [0, 1] [] rfl rfl (by decide) (by decide) (fun r u H locs hw hP hD hS => ?_)
  have hw : r = (-1000) := hw
  subst hw
  have hP : va_P (gg_D G) classes [] H := hP
  have hD : va_D A [] := hD
  refine lv_icmp_eq (tgt := 1095) hx hb dL_law_625 (by decide) (fun _ => ?_) (fun c0 => absurd (by decide +kernel) c0)
  refine lv_iinc (v := 6) (lv' := [(3, .int 6), (2, .ref qm), (1, .ref qx), (0, .ref b)]) hx hb dL_law_1095 hl (k := 0) rfl (by decide +kernel) (by decide) rfl (fun ls hl => ?_)
  refine lv_goto (tgt := 18) hx hb dL_law_1098 (by decide) ?_
  refine lv_iload_n hx hb dL_law_18 rfl (lv_at hl 0 rfl) ?_
  refine lv_aload_n hx hb dL_law_19 rfl (lv_at hl 3 rfl) ?_
  refine va_slen hx hb hX_ hbl hbA hS dL_law_20 ?_
  refine W.eq (g2 := F0 m 21 ls [.int 6, .int 6]) rfl ?_
  refine lv_bipush (v := 6) hx hb dL_law_21 (by decide +kernel) ?_
  refine gq_isub hx hb 0 (by decide +kernel) dL_law_23 ?_
  refine lv_icmp_gt (tgt := 1101) hx hb dL_law_24 (by decide) (fun _ => ?_) (fun c0 => absurd (by decide +kernel) c0)
  refine lv_iconst (v := 1) hx hb dL_law_1101 (by decide) ?_
  refine va_forget (fun q hq => hA2 _ (hS.2.2 q hq)) ?_
  refine W.widen (k := 600000) (n := 7302249) (Nat.le_of_ble_eq_true rfl) (Nat.le_of_ble_eq_true rfl) ?_
  exact lw_ret hx hb hr hlocks dL_law_1102
