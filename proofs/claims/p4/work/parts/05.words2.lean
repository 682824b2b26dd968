theorem w_430 : Cond.static ⟨"java/lang/Math", "min", "(II)I"⟩ ∈ gw := gw_tbl (i := 430) (by decide +kernel) rfl
theorem w_431 : Cond.code ⟨"java/lang/Math", "min", "(II)I"⟩ prog_11_method_69_code 2 (some .int) ∈ gw := gw_tbl (i := 431) (by decide +kernel) rfl
theorem w_432 : Cond.methodLink "LineDisk" 104 ⟨"java/lang/Math", "max", "(II)I"⟩ ∈ gw := gw_tbl (i := 432) (by decide +kernel) rfl
theorem w_433 : Cond.static ⟨"java/lang/Math", "max", "(II)I"⟩ ∈ gw := gw_tbl (i := 433) (by decide +kernel) rfl
theorem w_434 : Cond.code ⟨"java/lang/Math", "max", "(II)I"⟩ prog_11_method_65_code 2 (some .int) ∈ gw := gw_tbl (i := 434) (by decide +kernel) rfl
theorem w_435 : Cond.methodLink "LineDisk" 107 ⟨"LineDisk", "oneStep", "()I"⟩ ∈ gw := gw_tbl (i := 435) (by decide +kernel) rfl
theorem w_437 : Cond.instanceMethod ⟨"LineDisk", "oneStep", "()I"⟩ ∈ gw := gw_tbl (i := 437) (by decide +kernel) rfl
theorem w_438 : Cond.code ⟨"LineDisk", "oneStep", "()I"⟩ prog_1_method_28_code 4 (some .int) ∈ gw := gw_tbl (i := 438) (by decide +kernel) rfl
theorem w_439 : Cond.methodLink "LineDisk" 140 ⟨"LineDisk$Workspace", "nextLine", "()I"⟩ ∈ gw := gw_tbl (i := 439) (by decide +kernel) rfl
theorem w_440 : Cond.instanceMethod ⟨"LineDisk$Workspace", "nextLine", "()I"⟩ ∈ gw := gw_tbl (i := 440) (by decide +kernel) rfl
theorem w_441 : Cond.selects "LineDisk$Workspace" ⟨"LineDisk$Workspace", "nextLine", "()I"⟩ ⟨"LineDisk$Workspace", "nextLine", "()I"⟩ ∈ gw := gw_tbl (i := 441) (by decide +kernel) rfl
theorem w_442 : Cond.code ⟨"LineDisk$Workspace", "nextLine", "()I"⟩ prog_5_method_6_code 2 (some .int) ∈ gw := gw_tbl (i := 442) (by decide +kernel) rfl
theorem w_443 : Cond.methodLink "LineDisk" 240 ⟨"LineDisk", "perform", "()I"⟩ ∈ gw := gw_tbl (i := 443) (by decide +kernel) rfl
theorem w_445 : Cond.instanceMethod ⟨"LineDisk", "perform", "()I"⟩ ∈ gw := gw_tbl (i := 445) (by decide +kernel) rfl
theorem w_446 : Cond.code ⟨"LineDisk", "perform", "()I"⟩ prog_1_method_29_code 1 (some .int) ∈ gw := gw_tbl (i := 446) (by decide +kernel) rfl
theorem w_447 : Cond.methodLink "LineDisk" 261 ⟨"LineDisk", "writeRecord", "(III)I"⟩ ∈ gw := gw_tbl (i := 447) (by decide +kernel) rfl
theorem w_449 : Cond.instanceMethod ⟨"LineDisk", "writeRecord", "(III)I"⟩ ∈ gw := gw_tbl (i := 449) (by decide +kernel) rfl
theorem w_450 : Cond.code ⟨"LineDisk", "writeRecord", "(III)I"⟩ prog_1_method_30_code 6 (some .int) ∈ gw := gw_tbl (i := 450) (by decide +kernel) rfl
theorem w_451 : Cond.methodLink "LineDisk" 268 ⟨"LineDisk", "recordFault", "(II)I"⟩ ∈ gw := gw_tbl (i := 451) (by decide +kernel) rfl
theorem w_453 : Cond.instanceMethod ⟨"LineDisk", "recordFault", "(II)I"⟩ ∈ gw := gw_tbl (i := 453) (by decide +kernel) rfl
theorem w_454 : Cond.code ⟨"LineDisk", "recordFault", "(II)I"⟩ prog_1_method_32_code 4 (some .int) ∈ gw := gw_tbl (i := 454) (by decide +kernel) rfl
theorem w_455 : Cond.methodLink "LineDisk" 265 ⟨"LineDisk", "readRecord", "(III)I"⟩ ∈ gw := gw_tbl (i := 455) (by decide +kernel) rfl
theorem w_457 : Cond.instanceMethod ⟨"LineDisk", "readRecord", "(III)I"⟩ ∈ gw := gw_tbl (i := 457) (by decide +kernel) rfl
theorem w_458 : Cond.code ⟨"LineDisk", "readRecord", "(III)I"⟩ prog_1_method_31_code 5 (some .int) ∈ gw := gw_tbl (i := 458) (by decide +kernel) rfl
theorem w_459 : Cond.methodLink "LineDisk" 243 ⟨"LineDisk$Statement", "jumps", "()Z"⟩ ∈ gw := gw_tbl (i := 459) (by decide +kernel) rfl
theorem w_460 : Cond.instanceMethod ⟨"LineDisk$Statement", "jumps", "()Z"⟩ ∈ gw := gw_tbl (i := 460) (by decide +kernel) rfl
theorem w_461 : Cond.selects "LineDisk$Statement" ⟨"LineDisk$Statement", "jumps", "()Z"⟩ ⟨"LineDisk$Statement", "jumps", "()Z"⟩ ∈ gw := gw_tbl (i := 461) (by decide +kernel) rfl
theorem w_462 : Cond.code ⟨"LineDisk$Statement", "jumps", "()Z"⟩ prog_3_method_3_code 1 (some .boolean) ∈ gw := gw_tbl (i := 462) (by decide +kernel) rfl
theorem w_463 : Cond.methodLink "LineDisk" 143 ⟨"LineDisk$Workspace", "numberOf", "(I)I"⟩ ∈ gw := gw_tbl (i := 463) (by decide +kernel) rfl
theorem w_464 : Cond.methodLink "LineDiskLaw" 54 ⟨"LineDisk", "outs", "()I"⟩ ∈ gw := gw_tbl (i := 464) (by decide +kernel) rfl
theorem w_465 : Cond.instanceMethod ⟨"LineDisk", "outs", "()I"⟩ ∈ gw := gw_tbl (i := 465) (by decide +kernel) rfl
theorem w_466 : Cond.selects "LineDisk" ⟨"LineDisk", "outs", "()I"⟩ ⟨"LineDisk", "outs", "()I"⟩ ∈ gw := gw_tbl (i := 466) (by decide +kernel) rfl
theorem w_467 : Cond.code ⟨"LineDisk", "outs", "()I"⟩ prog_1_method_8_code 1 (some .int) ∈ gw := gw_tbl (i := 467) (by decide +kernel) rfl
theorem w_468 : Cond.methodLink "LineDiskLaw" 61 ⟨"LineDisk", "files", "()I"⟩ ∈ gw := gw_tbl (i := 468) (by decide +kernel) rfl
theorem w_469 : Cond.instanceMethod ⟨"LineDisk", "files", "()I"⟩ ∈ gw := gw_tbl (i := 469) (by decide +kernel) rfl
theorem w_470 : Cond.selects "LineDisk" ⟨"LineDisk", "files", "()I"⟩ ⟨"LineDisk", "files", "()I"⟩ ∈ gw := gw_tbl (i := 470) (by decide +kernel) rfl
theorem w_471 : Cond.code ⟨"LineDisk", "files", "()I"⟩ prog_1_method_10_code 3 (some .int) ∈ gw := gw_tbl (i := 471) (by decide +kernel) rfl
theorem w_472 : Cond.methodLink "LineDiskLaw" 65 ⟨"LineDisk", "about", "(I)I"⟩ ∈ gw := gw_tbl (i := 472) (by decide +kernel) rfl
theorem w_473 : Cond.instanceMethod ⟨"LineDisk", "about", "(I)I"⟩ ∈ gw := gw_tbl (i := 473) (by decide +kernel) rfl
theorem w_474 : Cond.selects "LineDisk" ⟨"LineDisk", "about", "(I)I"⟩ ⟨"LineDisk", "about", "(I)I"⟩ ∈ gw := gw_tbl (i := 474) (by decide +kernel) rfl
theorem w_475 : Cond.code ⟨"LineDisk", "about", "(I)I"⟩ prog_1_method_11_code 2 (some .int) ∈ gw := gw_tbl (i := 475) (by decide +kernel) rfl
theorem w_476 : Cond.methodLink "LineDiskLaw" 45 ⟨"LineDiskLaw", "arm", "(LLineDisk;I[J)I"⟩ ∈ gw := gw_tbl (i := 476) (by decide +kernel) rfl
theorem w_477 : Cond.static ⟨"LineDiskLaw", "arm", "(LLineDisk;I[J)I"⟩ ∈ gw := gw_tbl (i := 477) (by decide +kernel) rfl
theorem w_478 : Cond.codeWith ⟨"LineDiskLaw", "arm", "(LLineDisk;I[J)I"⟩ method_3_code 4 (some .int) [(0, 16, 19, 13)] ∈ gw := gw_tbl (i := 478) (by decide +kernel) rfl
theorem w_479 : Cond.classLink "LineDiskLaw" 13 "java/lang/IllegalArgumentException" ∈ gw := gw_tbl (i := 479) (by decide +kernel) rfl
theorem w_480 : Cond.methodLink "LineDiskLaw" 7 ⟨"LineDisk", "arm", "(I)Z"⟩ ∈ gw := gw_tbl (i := 480) (by decide +kernel) rfl
theorem w_481 : Cond.instanceMethod ⟨"LineDisk", "arm", "(I)Z"⟩ ∈ gw := gw_tbl (i := 481) (by decide +kernel) rfl
theorem w_482 : Cond.selects "LineDisk" ⟨"LineDisk", "arm", "(I)Z"⟩ ⟨"LineDisk", "arm", "(I)Z"⟩ ∈ gw := gw_tbl (i := 482) (by decide +kernel) rfl
theorem w_483 : Cond.code ⟨"LineDisk", "arm", "(I)Z"⟩ prog_1_method_6_code 2 (some .boolean) ∈ gw := gw_tbl (i := 483) (by decide +kernel) rfl
theorem w_484 : Cond.classLink "LineDisk" 110 "java/lang/IllegalArgumentException" ∈ gw := gw_tbl (i := 484) (by decide +kernel) rfl
theorem w_485 : Cond.instantiable "java/lang/IllegalArgumentException" 6 ∈ gw := gw_tbl (i := 485) (by decide +kernel) rfl
theorem w_493 : Cond.selects "java/lang/IllegalArgumentException" ⟨"java/lang/Throwable", "fillInStackTrace", "(I)Ljava/lang/Throwable;"⟩ ⟨"java/lang/Throwable", "fillInStackTrace", "(I)Ljava/lang/Throwable;"⟩ ∈ gw := gw_tbl (i := 493) (by decide +kernel) rfl
theorem w_494 : Cond.selects "java/lang/IllegalArgumentException" ⟨"java/lang/Throwable", "fillInStackTrace", "()Ljava/lang/Throwable;"⟩ ⟨"java/lang/Throwable", "fillInStackTrace", "()Ljava/lang/Throwable;"⟩ ∈ gw := gw_tbl (i := 494) (by decide +kernel) rfl
theorem w_495 : Cond.lays "java/lang/IllegalArgumentException" "java/lang/Throwable" "cause" "Ljava/lang/Throwable;" ∈ gw := gw_tbl (i := 495) (by decide +kernel) rfl
theorem w_496 : Cond.lays "java/lang/Throwable" "java/lang/Throwable" "cause" "Ljava/lang/Throwable;" ∈ gw := gw_tbl (i := 496) (by decide +kernel) rfl
theorem w_497 : Cond.lays "java/lang/IllegalArgumentException" "java/lang/Throwable" "stackTrace" "[Ljava/lang/StackTraceElement;" ∈ gw := gw_tbl (i := 497) (by decide +kernel) rfl
theorem w_498 : Cond.lays "java/lang/Throwable" "java/lang/Throwable" "stackTrace" "[Ljava/lang/StackTraceElement;" ∈ gw := gw_tbl (i := 498) (by decide +kernel) rfl
theorem w_499 : Cond.lays "java/lang/IllegalArgumentException" "java/lang/Throwable" "suppressedExceptions" "Ljava/util/List;" ∈ gw := gw_tbl (i := 499) (by decide +kernel) rfl
theorem w_500 : Cond.lays "java/lang/Throwable" "java/lang/Throwable" "suppressedExceptions" "Ljava/util/List;" ∈ gw := gw_tbl (i := 500) (by decide +kernel) rfl
theorem w_501 : Cond.lays "java/lang/IllegalArgumentException" "java/lang/Throwable" "detailMessage" "Ljava/lang/String;" ∈ gw := gw_tbl (i := 501) (by decide +kernel) rfl
theorem w_502 : Cond.lays "java/lang/Throwable" "java/lang/Throwable" "detailMessage" "Ljava/lang/String;" ∈ gw := gw_tbl (i := 502) (by decide +kernel) rfl
theorem w_503 : Cond.lays "java/lang/IllegalArgumentException" "java/lang/Throwable" "backtrace" "Ljava/lang/Object;" ∈ gw := gw_tbl (i := 503) (by decide +kernel) rfl
theorem w_504 : Cond.lays "java/lang/Throwable" "java/lang/Throwable" "backtrace" "Ljava/lang/Object;" ∈ gw := gw_tbl (i := 504) (by decide +kernel) rfl
theorem w_505 : Cond.fieldLink "java/lang/Throwable" 198 "java/lang/Throwable" "backtrace" "Ljava/lang/Object;" ∈ gw := gw_tbl (i := 505) (by decide +kernel) rfl
theorem w_506 : Cond.superclass "java/lang/Throwable" "java/lang/Object" ∈ gw := gw_tbl (i := 506) (by decide +kernel) rfl
theorem w_507 : Cond.instanceMethod ⟨"java/lang/Throwable", "<init>", "()V"⟩ ∈ gw := gw_tbl (i := 507) (by decide +kernel) rfl
theorem w_508 : Cond.code ⟨"java/lang/Throwable", "<init>", "()V"⟩ prog_15_method_1_code 1 none ∈ gw := gw_tbl (i := 508) (by decide +kernel) rfl
theorem w_509 : Cond.methodLink "java/lang/Throwable" 1 ⟨"java/lang/Object", "<init>", "()V"⟩ ∈ gw := gw_tbl (i := 509) (by decide +kernel) rfl
theorem w_510 : Cond.fieldLink "java/lang/Throwable" 13 "java/lang/Throwable" "UNASSIGNED_STACK" "[Ljava/lang/StackTraceElement;" ∈ gw := gw_tbl (i := 510) (by decide +kernel) rfl
theorem w_512 : Cond.fieldLink "java/lang/Throwable" 20 "java/lang/Throwable" "SUPPRESSED_SENTINEL" "Ljava/util/List;" ∈ gw := gw_tbl (i := 512) (by decide +kernel) rfl
theorem w_514 : Cond.methodLink "java/lang/Throwable" 27 ⟨"java/lang/Throwable", "fillInStackTrace", "()Ljava/lang/Throwable;"⟩ ∈ gw := gw_tbl (i := 514) (by decide +kernel) rfl
theorem w_515 : Cond.instanceMethod ⟨"java/lang/Throwable", "fillInStackTrace", "()Ljava/lang/Throwable;"⟩ ∈ gw := gw_tbl (i := 515) (by decide +kernel) rfl
theorem w_517 : Cond.selects "java/lang/IndexOutOfBoundsException" ⟨"java/lang/Throwable", "fillInStackTrace", "()Ljava/lang/Throwable;"⟩ ⟨"java/lang/Throwable", "fillInStackTrace", "()Ljava/lang/Throwable;"⟩ ∈ gw := gw_tbl (i := 517) (by decide +kernel) rfl
theorem w_518 : Cond.codeSync ⟨"java/lang/Throwable", "fillInStackTrace", "()Ljava/lang/Throwable;"⟩ prog_15_method_18_code 1 (some (.object "java/lang/Throwable")) ∈ gw := gw_tbl (i := 518) (by decide +kernel) rfl
theorem w_519 : Cond.methodLink "java/lang/Throwable" 202 ⟨"java/lang/Throwable", "fillInStackTrace", "(I)Ljava/lang/Throwable;"⟩ ∈ gw := gw_tbl (i := 519) (by decide +kernel) rfl
theorem w_521 : Cond.instanceMethod ⟨"java/lang/Throwable", "fillInStackTrace", "(I)Ljava/lang/Throwable;"⟩ ∈ gw := gw_tbl (i := 521) (by decide +kernel) rfl
theorem w_522 : Cond.instantiable "java/lang/Throwable" 6 ∈ gw := gw_tbl (i := 522) (by decide +kernel) rfl
theorem w_523 : Cond.native ⟨"java/lang/Throwable", "fillInStackTrace", "(I)Ljava/lang/Throwable;"⟩ ∈ gw := gw_tbl (i := 523) (by decide +kernel) rfl
theorem w_525 : Cond.methodLink "LineDisk" 114 ⟨"java/lang/IllegalArgumentException", "<init>", "(Ljava/lang/String;)V"⟩ ∈ gw := gw_tbl (i := 525) (by decide +kernel) rfl
theorem w_526 : Cond.instanceMethod ⟨"java/lang/IllegalArgumentException", "<init>", "(Ljava/lang/String;)V"⟩ ∈ gw := gw_tbl (i := 526) (by decide +kernel) rfl
theorem w_527 : Cond.code ⟨"java/lang/IllegalArgumentException", "<init>", "(Ljava/lang/String;)V"⟩ prog_9_method_2_code 2 none ∈ gw := gw_tbl (i := 527) (by decide +kernel) rfl
theorem w_528 : Cond.methodLink "java/lang/IllegalArgumentException" 7 ⟨"java/lang/RuntimeException", "<init>", "(Ljava/lang/String;)V"⟩ ∈ gw := gw_tbl (i := 528) (by decide +kernel) rfl
theorem w_529 : Cond.instanceMethod ⟨"java/lang/RuntimeException", "<init>", "(Ljava/lang/String;)V"⟩ ∈ gw := gw_tbl (i := 529) (by decide +kernel) rfl
theorem w_530 : Cond.code ⟨"java/lang/RuntimeException", "<init>", "(Ljava/lang/String;)V"⟩ prog_12_method_2_code 2 none ∈ gw := gw_tbl (i := 530) (by decide +kernel) rfl
theorem w_531 : Cond.methodLink "java/lang/RuntimeException" 7 ⟨"java/lang/Exception", "<init>", "(Ljava/lang/String;)V"⟩ ∈ gw := gw_tbl (i := 531) (by decide +kernel) rfl
theorem w_532 : Cond.instanceMethod ⟨"java/lang/Exception", "<init>", "(Ljava/lang/String;)V"⟩ ∈ gw := gw_tbl (i := 532) (by decide +kernel) rfl
theorem w_533 : Cond.code ⟨"java/lang/Exception", "<init>", "(Ljava/lang/String;)V"⟩ prog_8_method_2_code 2 none ∈ gw := gw_tbl (i := 533) (by decide +kernel) rfl
theorem w_534 : Cond.methodLink "java/lang/Exception" 7 ⟨"java/lang/Throwable", "<init>", "(Ljava/lang/String;)V"⟩ ∈ gw := gw_tbl (i := 534) (by decide +kernel) rfl
theorem w_535 : Cond.instanceMethod ⟨"java/lang/Throwable", "<init>", "(Ljava/lang/String;)V"⟩ ∈ gw := gw_tbl (i := 535) (by decide +kernel) rfl
theorem w_536 : Cond.code ⟨"java/lang/Throwable", "<init>", "(Ljava/lang/String;)V"⟩ prog_15_method_2_code 2 none ∈ gw := gw_tbl (i := 536) (by decide +kernel) rfl
theorem w_538 : Cond.fieldLink "java/lang/Throwable" 31 "java/lang/Throwable" "detailMessage" "Ljava/lang/String;" ∈ gw := gw_tbl (i := 538) (by decide +kernel) rfl
theorem w_539 : Cond.fieldLink "java/lang/Throwable" 7 "java/lang/Throwable" "cause" "Ljava/lang/Throwable;" ∈ gw := gw_tbl (i := 539) (by decide +kernel) rfl
theorem w_540 : Cond.fieldLink "java/lang/Throwable" 17 "java/lang/Throwable" "stackTrace" "[Ljava/lang/StackTraceElement;" ∈ gw := gw_tbl (i := 540) (by decide +kernel) rfl
theorem w_541 : Cond.fieldLink "java/lang/Throwable" 24 "java/lang/Throwable" "suppressedExceptions" "Ljava/util/List;" ∈ gw := gw_tbl (i := 541) (by decide +kernel) rfl
theorem w_542 : Cond.soleField "java/lang/Throwable" "backtrace" ∈ gw := gw_tbl (i := 542) (by decide +kernel) rfl
theorem w_543 : Cond.soleField "java/lang/Throwable" "detailMessage" ∈ gw := gw_tbl (i := 543) (by decide +kernel) rfl
theorem w_544 : Cond.soleField "java/lang/Throwable" "cause" ∈ gw := gw_tbl (i := 544) (by decide +kernel) rfl
theorem w_545 : Cond.soleField "java/lang/Throwable" "stackTrace" ∈ gw := gw_tbl (i := 545) (by decide +kernel) rfl
theorem w_546 : Cond.lays "java/lang/IllegalArgumentException" "java/lang/Throwable" "depth" "I" ∈ gw := gw_tbl (i := 546) (by decide +kernel) rfl
theorem w_547 : Cond.soleField "java/lang/Throwable" "depth" ∈ gw := gw_tbl (i := 547) (by decide +kernel) rfl
theorem w_548 : Cond.soleField "java/lang/Throwable" "suppressedExceptions" ∈ gw := gw_tbl (i := 548) (by decide +kernel) rfl
theorem w_549 : Cond.superclass "java/lang/IllegalArgumentException" "java/lang/RuntimeException" ∈ gw := gw_tbl (i := 549) (by decide +kernel) rfl
theorem w_550 : Cond.arrayClass .byte ∈ gw := gw_tbl (i := 550) (by decide +kernel) rfl
theorem w_551 : Cond.methodLink "LineDiskLaw" 51 ⟨"LineDiskLaw", "out", "(LLineDisk;I[J)I"⟩ ∈ gw := gw_tbl (i := 551) (by decide +kernel) rfl
theorem w_552 : Cond.static ⟨"LineDiskLaw", "out", "(LLineDisk;I[J)I"⟩ ∈ gw := gw_tbl (i := 552) (by decide +kernel) rfl
theorem w_553 : Cond.codeWith ⟨"LineDiskLaw", "out", "(LLineDisk;I[J)I"⟩ method_4_code 4 (some .int) [(0, 9, 12, 19)] ∈ gw := gw_tbl (i := 553) (by decide +kernel) rfl
theorem w_554 : Cond.classLink "LineDiskLaw" 19 "java/lang/IndexOutOfBoundsException" ∈ gw := gw_tbl (i := 554) (by decide +kernel) rfl
theorem w_555 : Cond.methodLink "LineDiskLaw" 15 ⟨"LineDisk", "out", "(I)I"⟩ ∈ gw := gw_tbl (i := 555) (by decide +kernel) rfl
theorem w_556 : Cond.instanceMethod ⟨"LineDisk", "out", "(I)I"⟩ ∈ gw := gw_tbl (i := 556) (by decide +kernel) rfl
theorem w_557 : Cond.selects "LineDisk" ⟨"LineDisk", "out", "(I)I"⟩ ⟨"LineDisk", "out", "(I)I"⟩ ∈ gw := gw_tbl (i := 557) (by decide +kernel) rfl
theorem w_558 : Cond.code ⟨"LineDisk", "out", "(I)I"⟩ prog_1_method_7_code 2 (some .int) ∈ gw := gw_tbl (i := 558) (by decide +kernel) rfl
theorem w_559 : Cond.classLink "LineDisk" 117 "java/lang/IndexOutOfBoundsException" ∈ gw := gw_tbl (i := 559) (by decide +kernel) rfl
theorem w_560 : Cond.instantiable "java/lang/IndexOutOfBoundsException" 6 ∈ gw := gw_tbl (i := 560) (by decide +kernel) rfl
theorem w_562 : Cond.selects "java/lang/IndexOutOfBoundsException" ⟨"java/lang/Throwable", "fillInStackTrace", "(I)Ljava/lang/Throwable;"⟩ ⟨"java/lang/Throwable", "fillInStackTrace", "(I)Ljava/lang/Throwable;"⟩ ∈ gw := gw_tbl (i := 562) (by decide +kernel) rfl
theorem w_563 : Cond.lays "java/lang/IndexOutOfBoundsException" "java/lang/Throwable" "cause" "Ljava/lang/Throwable;" ∈ gw := gw_tbl (i := 563) (by decide +kernel) rfl
theorem w_564 : Cond.lays "java/lang/IndexOutOfBoundsException" "java/lang/Throwable" "stackTrace" "[Ljava/lang/StackTraceElement;" ∈ gw := gw_tbl (i := 564) (by decide +kernel) rfl
theorem w_565 : Cond.lays "java/lang/IndexOutOfBoundsException" "java/lang/Throwable" "suppressedExceptions" "Ljava/util/List;" ∈ gw := gw_tbl (i := 565) (by decide +kernel) rfl
theorem w_566 : Cond.lays "java/lang/IndexOutOfBoundsException" "java/lang/Throwable" "detailMessage" "Ljava/lang/String;" ∈ gw := gw_tbl (i := 566) (by decide +kernel) rfl
theorem w_567 : Cond.lays "java/lang/IndexOutOfBoundsException" "java/lang/Throwable" "backtrace" "Ljava/lang/Object;" ∈ gw := gw_tbl (i := 567) (by decide +kernel) rfl
theorem w_569 : Cond.methodLink "LineDisk" 121 ⟨"java/lang/IndexOutOfBoundsException", "<init>", "(Ljava/lang/String;)V"⟩ ∈ gw := gw_tbl (i := 569) (by decide +kernel) rfl
theorem w_570 : Cond.instanceMethod ⟨"java/lang/IndexOutOfBoundsException", "<init>", "(Ljava/lang/String;)V"⟩ ∈ gw := gw_tbl (i := 570) (by decide +kernel) rfl
theorem w_571 : Cond.code ⟨"java/lang/IndexOutOfBoundsException", "<init>", "(Ljava/lang/String;)V"⟩ prog_10_method_2_code 2 none ∈ gw := gw_tbl (i := 571) (by decide +kernel) rfl
theorem w_572 : Cond.methodLink "java/lang/IndexOutOfBoundsException" 7 ⟨"java/lang/RuntimeException", "<init>", "(Ljava/lang/String;)V"⟩ ∈ gw := gw_tbl (i := 572) (by decide +kernel) rfl
theorem w_573 : Cond.lays "java/lang/IndexOutOfBoundsException" "java/lang/Throwable" "depth" "I" ∈ gw := gw_tbl (i := 573) (by decide +kernel) rfl
theorem w_574 : Cond.superclass "java/lang/IndexOutOfBoundsException" "java/lang/RuntimeException" ∈ gw := gw_tbl (i := 574) (by decide +kernel) rfl
theorem w_575 : Cond.methodLink "LineDiskLaw" 58 ⟨"LineDiskLaw", "disk", "(LLineDisk;I[J)I"⟩ ∈ gw := gw_tbl (i := 575) (by decide +kernel) rfl
theorem w_576 : Cond.static ⟨"LineDiskLaw", "disk", "(LLineDisk;I[J)I"⟩ ∈ gw := gw_tbl (i := 576) (by decide +kernel) rfl
theorem w_577 : Cond.codeWith ⟨"LineDiskLaw", "disk", "(LLineDisk;I[J)I"⟩ method_5_code 4 (some .int) [(0, 9, 12, 19)] ∈ gw := gw_tbl (i := 577) (by decide +kernel) rfl
theorem w_578 : Cond.methodLink "LineDiskLaw" 21 ⟨"LineDisk", "disk", "(I)I"⟩ ∈ gw := gw_tbl (i := 578) (by decide +kernel) rfl
theorem w_579 : Cond.instanceMethod ⟨"LineDisk", "disk", "(I)I"⟩ ∈ gw := gw_tbl (i := 579) (by decide +kernel) rfl
theorem w_580 : Cond.selects "LineDisk" ⟨"LineDisk", "disk", "(I)I"⟩ ⟨"LineDisk", "disk", "(I)I"⟩ ∈ gw := gw_tbl (i := 580) (by decide +kernel) rfl
theorem w_581 : Cond.code ⟨"LineDisk", "disk", "(I)I"⟩ prog_1_method_9_code 2 (some .int) ∈ gw := gw_tbl (i := 581) (by decide +kernel) rfl
theorem w_583 : Cond.classLink "LineDiskLaw" 25 "LineDiskModel" ∈ gw := gw_tbl (i := 583) (by decide +kernel) rfl
theorem w_584 : Cond.instantiable "LineDiskModel" 25 ∈ gw := gw_tbl (i := 584) (by decide +kernel) rfl
theorem w_585 : Cond.methodLink "LineDiskLaw" 27 ⟨"LineDiskModel", "<init>", "()V"⟩ ∈ gw := gw_tbl (i := 585) (by decide +kernel) rfl
theorem w_586 : Cond.instanceMethod ⟨"LineDiskModel", "<init>", "()V"⟩ ∈ gw := gw_tbl (i := 586) (by decide +kernel) rfl
theorem w_587 : Cond.code ⟨"LineDiskModel", "<init>", "()V"⟩ prog_7_method_1_code 1 none ∈ gw := gw_tbl (i := 587) (by decide +kernel) rfl
theorem w_588 : Cond.methodLink "LineDiskModel" 1 ⟨"java/lang/Object", "<init>", "()V"⟩ ∈ gw := gw_tbl (i := 588) (by decide +kernel) rfl
theorem w_589 : Cond.methodLink "LineDiskModel" 44 ⟨"LineDiskModel", "nothing", "()V"⟩ ∈ gw := gw_tbl (i := 589) (by decide +kernel) rfl
theorem w_591 : Cond.instanceMethod ⟨"LineDiskModel", "nothing", "()V"⟩ ∈ gw := gw_tbl (i := 591) (by decide +kernel) rfl
theorem w_592 : Cond.code ⟨"LineDiskModel", "nothing", "()V"⟩ prog_7_method_3_code 2 none ∈ gw := gw_tbl (i := 592) (by decide +kernel) rfl
theorem w_593 : Cond.fieldLink "LineDiskModel" 47 "LineDiskModel" "threw" "I" ∈ gw := gw_tbl (i := 593) (by decide +kernel) rfl
theorem w_594 : Cond.fieldLink "LineDiskModel" 7 "LineDiskModel" "disk" "[I" ∈ gw := gw_tbl (i := 594) (by decide +kernel) rfl
theorem w_595 : Cond.fieldLink "LineDiskModel" 13 "LineDiskModel" "armed" "I" ∈ gw := gw_tbl (i := 595) (by decide +kernel) rfl
theorem w_596 : Cond.fieldLink "LineDiskModel" 56 "LineDiskModel" "dead" "Z" ∈ gw := gw_tbl (i := 596) (by decide +kernel) rfl
theorem w_597 : Cond.fieldLink "LineDiskModel" 63 "LineDiskModel" "writes" "I" ∈ gw := gw_tbl (i := 597) (by decide +kernel) rfl
theorem w_598 : Cond.fieldLink "LineDiskModel" 17 "LineDiskModel" "length" "[I" ∈ gw := gw_tbl (i := 598) (by decide +kernel) rfl
theorem w_599 : Cond.fieldLink "LineDiskModel" 20 "LineDiskModel" "chars" "[I" ∈ gw := gw_tbl (i := 599) (by decide +kernel) rfl
theorem w_600 : Cond.fieldLink "LineDiskModel" 23 "LineDiskModel" "variables" "[I" ∈ gw := gw_tbl (i := 600) (by decide +kernel) rfl
theorem w_601 : Cond.fieldLink "LineDiskModel" 50 "LineDiskModel" "next" "I" ∈ gw := gw_tbl (i := 601) (by decide +kernel) rfl
theorem w_602 : Cond.fieldLink "LineDiskModel" 109 "LineDiskModel" "outs" "I" ∈ gw := gw_tbl (i := 602) (by decide +kernel) rfl
theorem w_603 : Cond.fieldLink "LineDiskModel" 26 "LineDiskModel" "out" "[I" ∈ gw := gw_tbl (i := 603) (by decide +kernel) rfl
theorem w_604 : Cond.fieldLink "LineDiskModel" 53 "LineDiskModel" "typed" "I" ∈ gw := gw_tbl (i := 604) (by decide +kernel) rfl
theorem w_605 : Cond.fieldLink "LineDiskModel" 29 "LineDiskModel" "text" "[I" ∈ gw := gw_tbl (i := 605) (by decide +kernel) rfl
theorem w_606 : Cond.fieldLink "LineDiskModel" 118 "LineDiskModel" "ofLine" "Z" ∈ gw := gw_tbl (i := 606) (by decide +kernel) rfl
theorem w_607 : Cond.fieldLink "LineDiskModel" 121 "LineDiskModel" "from" "I" ∈ gw := gw_tbl (i := 607) (by decide +kernel) rfl
theorem w_608 : Cond.fieldLink "LineDiskModel" 112 "LineDiskModel" "at" "I" ∈ gw := gw_tbl (i := 608) (by decide +kernel) rfl
theorem w_609 : Cond.fieldLink "LineDiskModel" 115 "LineDiskModel" "end" "I" ∈ gw := gw_tbl (i := 609) (by decide +kernel) rfl
theorem w_610 : Cond.fieldLink "LineDiskModel" 131 "LineDiskModel" "good" "Z" ∈ gw := gw_tbl (i := 610) (by decide +kernel) rfl
theorem w_611 : Cond.fieldLink "LineDiskModel" 140 "LineDiskModel" "numbers" "I" ∈ gw := gw_tbl (i := 611) (by decide +kernel) rfl
theorem w_612 : Cond.fieldLink "LineDiskModel" 32 "LineDiskModel" "number" "[I" ∈ gw := gw_tbl (i := 612) (by decide +kernel) rfl
theorem w_613 : Cond.fieldLink "LineDiskModel" 137 "LineDiskModel" "signs" "I" ∈ gw := gw_tbl (i := 613) (by decide +kernel) rfl
theorem w_614 : Cond.fieldLink "LineDiskModel" 35 "LineDiskModel" "sign" "[I" ∈ gw := gw_tbl (i := 614) (by decide +kernel) rfl
theorem w_615 : Cond.fieldLink "LineDiskModel" 70 "LineDiskModel" "many" "I" ∈ gw := gw_tbl (i := 615) (by decide +kernel) rfl
theorem w_616 : Cond.fieldLink "LineDiskModel" 38 "LineDiskModel" "which" "[I" ∈ gw := gw_tbl (i := 616) (by decide +kernel) rfl
theorem w_617 : Cond.fieldLink "LineDiskModel" 41 "LineDiskModel" "cells" "[I" ∈ gw := gw_tbl (i := 617) (by decide +kernel) rfl
theorem w_618 : Cond.lays "LineDiskModel" "LineDiskModel" "threw" "I" ∈ gw := gw_tbl (i := 618) (by decide +kernel) rfl
theorem w_619 : Cond.soleField "LineDiskModel" "threw" ∈ gw := gw_tbl (i := 619) (by decide +kernel) rfl
theorem w_620 : Cond.laysFinal "LineDiskModel" "LineDiskModel" "disk" "[I" ∈ gw := gw_tbl (i := 620) (by decide +kernel) rfl
theorem w_621 : Cond.soleField "LineDiskModel" "disk" ∈ gw := gw_tbl (i := 621) (by decide +kernel) rfl
theorem w_622 : Cond.lays "LineDiskModel" "LineDiskModel" "armed" "I" ∈ gw := gw_tbl (i := 622) (by decide +kernel) rfl
theorem w_623 : Cond.soleField "LineDiskModel" "armed" ∈ gw := gw_tbl (i := 623) (by decide +kernel) rfl
theorem w_624 : Cond.lays "LineDiskModel" "LineDiskModel" "dead" "Z" ∈ gw := gw_tbl (i := 624) (by decide +kernel) rfl
theorem w_625 : Cond.soleField "LineDiskModel" "dead" ∈ gw := gw_tbl (i := 625) (by decide +kernel) rfl
theorem w_626 : Cond.lays "LineDiskModel" "LineDiskModel" "writes" "I" ∈ gw := gw_tbl (i := 626) (by decide +kernel) rfl
theorem w_627 : Cond.soleField "LineDiskModel" "writes" ∈ gw := gw_tbl (i := 627) (by decide +kernel) rfl
theorem w_628 : Cond.laysFinal "LineDiskModel" "LineDiskModel" "length" "[I" ∈ gw := gw_tbl (i := 628) (by decide +kernel) rfl
theorem w_629 : Cond.soleField "LineDiskModel" "length" ∈ gw := gw_tbl (i := 629) (by decide +kernel) rfl
theorem w_630 : Cond.laysFinal "LineDiskModel" "LineDiskModel" "chars" "[I" ∈ gw := gw_tbl (i := 630) (by decide +kernel) rfl
theorem w_631 : Cond.soleField "LineDiskModel" "chars" ∈ gw := gw_tbl (i := 631) (by decide +kernel) rfl
theorem w_632 : Cond.laysFinal "LineDiskModel" "LineDiskModel" "variables" "[I" ∈ gw := gw_tbl (i := 632) (by decide +kernel) rfl
theorem w_633 : Cond.soleField "LineDiskModel" "variables" ∈ gw := gw_tbl (i := 633) (by decide +kernel) rfl
theorem w_634 : Cond.lays "LineDiskModel" "LineDiskModel" "next" "I" ∈ gw := gw_tbl (i := 634) (by decide +kernel) rfl
theorem w_635 : Cond.soleField "LineDiskModel" "next" ∈ gw := gw_tbl (i := 635) (by decide +kernel) rfl
theorem w_636 : Cond.lays "LineDiskModel" "LineDiskModel" "outs" "I" ∈ gw := gw_tbl (i := 636) (by decide +kernel) rfl
theorem w_637 : Cond.soleField "LineDiskModel" "outs" ∈ gw := gw_tbl (i := 637) (by decide +kernel) rfl
theorem w_638 : Cond.laysFinal "LineDiskModel" "LineDiskModel" "out" "[I" ∈ gw := gw_tbl (i := 638) (by decide +kernel) rfl
theorem w_639 : Cond.soleField "LineDiskModel" "out" ∈ gw := gw_tbl (i := 639) (by decide +kernel) rfl
theorem w_640 : Cond.lays "LineDiskModel" "LineDiskModel" "typed" "I" ∈ gw := gw_tbl (i := 640) (by decide +kernel) rfl
theorem w_641 : Cond.soleField "LineDiskModel" "typed" ∈ gw := gw_tbl (i := 641) (by decide +kernel) rfl
theorem w_642 : Cond.laysFinal "LineDiskModel" "LineDiskModel" "text" "[I" ∈ gw := gw_tbl (i := 642) (by decide +kernel) rfl
theorem w_643 : Cond.soleField "LineDiskModel" "text" ∈ gw := gw_tbl (i := 643) (by decide +kernel) rfl
theorem w_644 : Cond.lays "LineDiskModel" "LineDiskModel" "ofLine" "Z" ∈ gw := gw_tbl (i := 644) (by decide +kernel) rfl
theorem w_645 : Cond.soleField "LineDiskModel" "ofLine" ∈ gw := gw_tbl (i := 645) (by decide +kernel) rfl
theorem w_646 : Cond.lays "LineDiskModel" "LineDiskModel" "from" "I" ∈ gw := gw_tbl (i := 646) (by decide +kernel) rfl
theorem w_647 : Cond.soleField "LineDiskModel" "from" ∈ gw := gw_tbl (i := 647) (by decide +kernel) rfl
theorem w_648 : Cond.lays "LineDiskModel" "LineDiskModel" "at" "I" ∈ gw := gw_tbl (i := 648) (by decide +kernel) rfl
theorem w_649 : Cond.soleField "LineDiskModel" "at" ∈ gw := gw_tbl (i := 649) (by decide +kernel) rfl
theorem w_650 : Cond.lays "LineDiskModel" "LineDiskModel" "end" "I" ∈ gw := gw_tbl (i := 650) (by decide +kernel) rfl
theorem w_651 : Cond.soleField "LineDiskModel" "end" ∈ gw := gw_tbl (i := 651) (by decide +kernel) rfl
theorem w_652 : Cond.lays "LineDiskModel" "LineDiskModel" "good" "Z" ∈ gw := gw_tbl (i := 652) (by decide +kernel) rfl
theorem w_653 : Cond.soleField "LineDiskModel" "good" ∈ gw := gw_tbl (i := 653) (by decide +kernel) rfl
theorem w_654 : Cond.lays "LineDiskModel" "LineDiskModel" "numbers" "I" ∈ gw := gw_tbl (i := 654) (by decide +kernel) rfl
theorem w_655 : Cond.soleField "LineDiskModel" "numbers" ∈ gw := gw_tbl (i := 655) (by decide +kernel) rfl
theorem w_656 : Cond.laysFinal "LineDiskModel" "LineDiskModel" "number" "[I" ∈ gw := gw_tbl (i := 656) (by decide +kernel) rfl
theorem w_657 : Cond.soleField "LineDiskModel" "number" ∈ gw := gw_tbl (i := 657) (by decide +kernel) rfl
theorem w_658 : Cond.lays "LineDiskModel" "LineDiskModel" "signs" "I" ∈ gw := gw_tbl (i := 658) (by decide +kernel) rfl
theorem w_659 : Cond.soleField "LineDiskModel" "signs" ∈ gw := gw_tbl (i := 659) (by decide +kernel) rfl
theorem w_660 : Cond.laysFinal "LineDiskModel" "LineDiskModel" "sign" "[I" ∈ gw := gw_tbl (i := 660) (by decide +kernel) rfl
theorem w_661 : Cond.soleField "LineDiskModel" "sign" ∈ gw := gw_tbl (i := 661) (by decide +kernel) rfl
theorem w_662 : Cond.lays "LineDiskModel" "LineDiskModel" "many" "I" ∈ gw := gw_tbl (i := 662) (by decide +kernel) rfl
theorem w_663 : Cond.soleField "LineDiskModel" "many" ∈ gw := gw_tbl (i := 663) (by decide +kernel) rfl
theorem w_664 : Cond.laysFinal "LineDiskModel" "LineDiskModel" "which" "[I" ∈ gw := gw_tbl (i := 664) (by decide +kernel) rfl
theorem w_665 : Cond.soleField "LineDiskModel" "which" ∈ gw := gw_tbl (i := 665) (by decide +kernel) rfl
theorem w_666 : Cond.laysFinal "LineDiskModel" "LineDiskModel" "cells" "[I" ∈ gw := gw_tbl (i := 666) (by decide +kernel) rfl
theorem w_667 : Cond.soleField "LineDiskModel" "cells" ∈ gw := gw_tbl (i := 667) (by decide +kernel) rfl
theorem w_668 : Cond.superclass "LineDiskModel" "java/lang/Object" ∈ gw := gw_tbl (i := 668) (by decide +kernel) rfl
theorem w_669 : Cond.methodLink "LineDiskLaw" 32 ⟨"LineDiskModel", "format", "()I"⟩ ∈ gw := gw_tbl (i := 669) (by decide +kernel) rfl
theorem w_670 : Cond.instanceMethod ⟨"LineDiskModel", "format", "()I"⟩ ∈ gw := gw_tbl (i := 670) (by decide +kernel) rfl
theorem w_671 : Cond.selects "LineDiskModel" ⟨"LineDiskModel", "format", "()I"⟩ ⟨"LineDiskModel", "format", "()I"⟩ ∈ gw := gw_tbl (i := 671) (by decide +kernel) rfl
theorem w_672 : Cond.code ⟨"LineDiskModel", "format", "()I"⟩ prog_7_method_7_code 2 (some .int) ∈ gw := gw_tbl (i := 672) (by decide +kernel) rfl
theorem w_673 : Cond.methodLink "LineDiskModel" 66 ⟨"LineDiskModel", "write", "(II)V"⟩ ∈ gw := gw_tbl (i := 673) (by decide +kernel) rfl
theorem w_675 : Cond.instanceMethod ⟨"LineDiskModel", "write", "(II)V"⟩ ∈ gw := gw_tbl (i := 675) (by decide +kernel) rfl
theorem w_676 : Cond.code ⟨"LineDiskModel", "write", "(II)V"⟩ prog_7_method_5_code 4 none ∈ gw := gw_tbl (i := 676) (by decide +kernel) rfl
theorem w_677 : Cond.methodLink "LineDiskModel" 60 ⟨"LineDiskModel", "dies", "()V"⟩ ∈ gw := gw_tbl (i := 677) (by decide +kernel) rfl
theorem w_679 : Cond.instanceMethod ⟨"LineDiskModel", "dies", "()V"⟩ ∈ gw := gw_tbl (i := 679) (by decide +kernel) rfl
theorem w_680 : Cond.code ⟨"LineDiskModel", "dies", "()V"⟩ prog_7_method_4_code 1 none ∈ gw := gw_tbl (i := 680) (by decide +kernel) rfl
theorem w_681 : Cond.methodLink "LineDiskLaw" 36 ⟨"LineDiskModel", "recover", "()I"⟩ ∈ gw := gw_tbl (i := 681) (by decide +kernel) rfl
theorem w_682 : Cond.instanceMethod ⟨"LineDiskModel", "recover", "()I"⟩ ∈ gw := gw_tbl (i := 682) (by decide +kernel) rfl
theorem w_683 : Cond.selects "LineDiskModel" ⟨"LineDiskModel", "recover", "()I"⟩ ⟨"LineDiskModel", "recover", "()I"⟩ ∈ gw := gw_tbl (i := 683) (by decide +kernel) rfl
theorem w_684 : Cond.code ⟨"LineDiskModel", "recover", "()I"⟩ prog_7_method_10_code 6 (some .int) ∈ gw := gw_tbl (i := 684) (by decide +kernel) rfl
theorem w_685 : Cond.methodLink "LineDiskModel" 76 ⟨"LineDiskModel", "formatted", "()Z"⟩ ∈ gw := gw_tbl (i := 685) (by decide +kernel) rfl
theorem w_687 : Cond.instanceMethod ⟨"LineDiskModel", "formatted", "()Z"⟩ ∈ gw := gw_tbl (i := 687) (by decide +kernel) rfl
theorem w_688 : Cond.code ⟨"LineDiskModel", "formatted", "()Z"⟩ prog_7_method_6_code 1 (some .boolean) ∈ gw := gw_tbl (i := 688) (by decide +kernel) rfl
theorem w_689 : Cond.methodLink "LineDiskLaw" 44 ⟨"LineDiskModel", "step", "(I)I"⟩ ∈ gw := gw_tbl (i := 689) (by decide +kernel) rfl
theorem w_690 : Cond.instanceMethod ⟨"LineDiskModel", "step", "(I)I"⟩ ∈ gw := gw_tbl (i := 690) (by decide +kernel) rfl
theorem w_691 : Cond.selects "LineDiskModel" ⟨"LineDiskModel", "step", "(I)I"⟩ ⟨"LineDiskModel", "step", "(I)I"⟩ ∈ gw := gw_tbl (i := 691) (by decide +kernel) rfl
theorem w_692 : Cond.code ⟨"LineDiskModel", "step", "(I)I"⟩ prog_7_method_38_code 6 (some .int) ∈ gw := gw_tbl (i := 692) (by decide +kernel) rfl
theorem w_693 : Cond.methodLink "LineDiskModel" 178 ⟨"LineDiskModel", "nextLine", "()I"⟩ ∈ gw := gw_tbl (i := 693) (by decide +kernel) rfl
theorem w_695 : Cond.instanceMethod ⟨"LineDiskModel", "nextLine", "()I"⟩ ∈ gw := gw_tbl (i := 695) (by decide +kernel) rfl
theorem w_696 : Cond.code ⟨"LineDiskModel", "nextLine", "()I"⟩ prog_7_method_36_code 2 (some .int) ∈ gw := gw_tbl (i := 696) (by decide +kernel) rfl
theorem w_697 : Cond.methodLink "LineDiskModel" 181 ⟨"LineDiskModel", "goThrough", "(ZII)V"⟩ ∈ gw := gw_tbl (i := 697) (by decide +kernel) rfl
theorem w_699 : Cond.instanceMethod ⟨"LineDiskModel", "goThrough", "(ZII)V"⟩ ∈ gw := gw_tbl (i := 699) (by decide +kernel) rfl
theorem w_700 : Cond.code ⟨"LineDiskModel", "goThrough", "(ZII)V"⟩ prog_7_method_37_code 4 none ∈ gw := gw_tbl (i := 700) (by decide +kernel) rfl
theorem w_701 : Cond.methodLink "LineDiskModel" 185 ⟨"LineDiskModel", "statement", "(ZI)I"⟩ ∈ gw := gw_tbl (i := 701) (by decide +kernel) rfl
theorem w_703 : Cond.instanceMethod ⟨"LineDiskModel", "statement", "(ZI)I"⟩ ∈ gw := gw_tbl (i := 703) (by decide +kernel) rfl
theorem w_704 : Cond.code ⟨"LineDiskModel", "statement", "(ZI)I"⟩ prog_7_method_35_code 12 (some .int) ∈ gw := gw_tbl (i := 704) (by decide +kernel) rfl
theorem w_705 : Cond.methodLink "LineDiskModel" 124 ⟨"LineDiskModel", "here", "()I"⟩ ∈ gw := gw_tbl (i := 705) (by decide +kernel) rfl
theorem w_707 : Cond.instanceMethod ⟨"LineDiskModel", "here", "()I"⟩ ∈ gw := gw_tbl (i := 707) (by decide +kernel) rfl
theorem w_708 : Cond.code ⟨"LineDiskModel", "here", "()I"⟩ prog_7_method_22_code 1 (some .int) ∈ gw := gw_tbl (i := 708) (by decide +kernel) rfl
theorem w_709 : Cond.methodLink "LineDiskModel" 143 ⟨"LineDiskModel", "isVariable", "(I)Z"⟩ ∈ gw := gw_tbl (i := 709) (by decide +kernel) rfl
theorem w_710 : Cond.static ⟨"LineDiskModel", "isVariable", "(I)Z"⟩ ∈ gw := gw_tbl (i := 710) (by decide +kernel) rfl
theorem w_711 : Cond.code ⟨"LineDiskModel", "isVariable", "(I)Z"⟩ prog_7_method_26_code 1 (some .boolean) ∈ gw := gw_tbl (i := 711) (by decide +kernel) rfl
theorem w_712 : Cond.methodLink "LineDiskModel" 155 ⟨"LineDiskModel", "must", "(I)V"⟩ ∈ gw := gw_tbl (i := 712) (by decide +kernel) rfl
theorem w_714 : Cond.instanceMethod ⟨"LineDiskModel", "must", "(I)V"⟩ ∈ gw := gw_tbl (i := 714) (by decide +kernel) rfl
theorem w_715 : Cond.code ⟨"LineDiskModel", "must", "(I)V"⟩ prog_7_method_24_code 3 none ∈ gw := gw_tbl (i := 715) (by decide +kernel) rfl
theorem w_716 : Cond.methodLink "LineDiskModel" 127 ⟨"LineDiskModel", "takes", "(I)Z"⟩ ∈ gw := gw_tbl (i := 716) (by decide +kernel) rfl
theorem w_718 : Cond.instanceMethod ⟨"LineDiskModel", "takes", "(I)Z"⟩ ∈ gw := gw_tbl (i := 718) (by decide +kernel) rfl
theorem w_719 : Cond.code ⟨"LineDiskModel", "takes", "(I)Z"⟩ prog_7_method_23_code 2 (some .boolean) ∈ gw := gw_tbl (i := 719) (by decide +kernel) rfl
theorem w_720 : Cond.methodLink "LineDiskModel" 159 ⟨"LineDiskModel", "value", "()I"⟩ ∈ gw := gw_tbl (i := 720) (by decide +kernel) rfl
theorem w_722 : Cond.instanceMethod ⟨"LineDiskModel", "value", "()I"⟩ ∈ gw := gw_tbl (i := 722) (by decide +kernel) rfl
theorem w_723 : Cond.code ⟨"LineDiskModel", "value", "()I"⟩ prog_7_method_32_code 6 (some .int) ∈ gw := gw_tbl (i := 723) (by decide +kernel) rfl
theorem w_724 : Cond.methodLink "LineDiskModel" 146 ⟨"LineDiskModel", "piece", "()Z"⟩ ∈ gw := gw_tbl (i := 724) (by decide +kernel) rfl
theorem w_726 : Cond.instanceMethod ⟨"LineDiskModel", "piece", "()Z"⟩ ∈ gw := gw_tbl (i := 726) (by decide +kernel) rfl
theorem w_727 : Cond.code ⟨"LineDiskModel", "piece", "()Z"⟩ prog_7_method_31_code 4 (some .boolean) ∈ gw := gw_tbl (i := 727) (by decide +kernel) rfl
theorem w_728 : Cond.methodLink "LineDiskModel" 134 ⟨"LineDiskModel", "isDigit", "(I)Z"⟩ ∈ gw := gw_tbl (i := 728) (by decide +kernel) rfl
theorem w_729 : Cond.static ⟨"LineDiskModel", "isDigit", "(I)Z"⟩ ∈ gw := gw_tbl (i := 729) (by decide +kernel) rfl
theorem w_730 : Cond.code ⟨"LineDiskModel", "isDigit", "(I)Z"⟩ prog_7_method_25_code 1 (some .boolean) ∈ gw := gw_tbl (i := 730) (by decide +kernel) rfl
theorem w_731 : Cond.methodLink "LineDiskModel" 149 ⟨"LineDiskModel", "level", "(I)I"⟩ ∈ gw := gw_tbl (i := 731) (by decide +kernel) rfl
theorem w_732 : Cond.static ⟨"LineDiskModel", "level", "(I)I"⟩ ∈ gw := gw_tbl (i := 732) (by decide +kernel) rfl
theorem w_733 : Cond.code ⟨"LineDiskModel", "level", "(I)I"⟩ prog_7_method_30_code 1 (some .int) ∈ gw := gw_tbl (i := 733) (by decide +kernel) rfl
theorem w_734 : Cond.methodLink "LineDiskModel" 152 ⟨"LineDiskModel", "reduce", "()V"⟩ ∈ gw := gw_tbl (i := 734) (by decide +kernel) rfl
theorem w_736 : Cond.instanceMethod ⟨"LineDiskModel", "reduce", "()V"⟩ ∈ gw := gw_tbl (i := 736) (by decide +kernel) rfl
theorem w_737 : Cond.code ⟨"LineDiskModel", "reduce", "()V"⟩ prog_7_method_29_code 3 none ∈ gw := gw_tbl (i := 737) (by decide +kernel) rfl
theorem w_738 : Cond.methodLink "LineDiskModel" 162 ⟨"LineDiskModel", "comesOut", "(I)V"⟩ ∈ gw := gw_tbl (i := 738) (by decide +kernel) rfl
theorem w_740 : Cond.instanceMethod ⟨"LineDiskModel", "comesOut", "(I)V"⟩ ∈ gw := gw_tbl (i := 740) (by decide +kernel) rfl
theorem w_741 : Cond.code ⟨"LineDiskModel", "comesOut", "(I)V"⟩ prog_7_method_21_code 2 none ∈ gw := gw_tbl (i := 741) (by decide +kernel) rfl
theorem w_742 : Cond.methodLink "LineDiskModel" 165 ⟨"LineDiskModel", "lineNumber", "()I"⟩ ∈ gw := gw_tbl (i := 742) (by decide +kernel) rfl
theorem w_744 : Cond.instanceMethod ⟨"LineDiskModel", "lineNumber", "()I"⟩ ∈ gw := gw_tbl (i := 744) (by decide +kernel) rfl
theorem w_745 : Cond.code ⟨"LineDiskModel", "lineNumber", "()I"⟩ prog_7_method_28_code 3 (some .int) ∈ gw := gw_tbl (i := 745) (by decide +kernel) rfl
theorem w_746 : Cond.methodLink "LineDiskModel" 168 ⟨"LineDiskModel", "digit", "()I"⟩ ∈ gw := gw_tbl (i := 746) (by decide +kernel) rfl
theorem w_748 : Cond.instanceMethod ⟨"LineDiskModel", "digit", "()I"⟩ ∈ gw := gw_tbl (i := 748) (by decide +kernel) rfl
theorem w_749 : Cond.code ⟨"LineDiskModel", "digit", "()I"⟩ prog_7_method_27_code 2 (some .int) ∈ gw := gw_tbl (i := 749) (by decide +kernel) rfl
theorem w_750 : Cond.methodLink "LineDiskModel" 171 ⟨"LineDiskModel", "recordStep", "(IIII)I"⟩ ∈ gw := gw_tbl (i := 750) (by decide +kernel) rfl
theorem w_752 : Cond.instanceMethod ⟨"LineDiskModel", "recordStep", "(IIII)I"⟩ ∈ gw := gw_tbl (i := 752) (by decide +kernel) rfl
theorem w_753 : Cond.code ⟨"LineDiskModel", "recordStep", "(IIII)I"⟩ prog_7_method_34_code 8 (some .int) ∈ gw := gw_tbl (i := 753) (by decide +kernel) rfl
theorem w_754 : Cond.methodLink "LineDiskModel" 84 ⟨"LineDiskModel", "sizeOf", "(I)I"⟩ ∈ gw := gw_tbl (i := 754) (by decide +kernel) rfl
theorem w_756 : Cond.instanceMethod ⟨"LineDiskModel", "sizeOf", "(I)I"⟩ ∈ gw := gw_tbl (i := 756) (by decide +kernel) rfl
theorem w_757 : Cond.code ⟨"LineDiskModel", "sizeOf", "(I)I"⟩ prog_7_method_11_code 2 (some .int) ∈ gw := gw_tbl (i := 757) (by decide +kernel) rfl
theorem w_758 : Cond.methodLink "LineDiskModel" 80 ⟨"LineDiskModel", "firstOf", "(I)I"⟩ ∈ gw := gw_tbl (i := 758) (by decide +kernel) rfl
theorem w_760 : Cond.instanceMethod ⟨"LineDiskModel", "firstOf", "(I)I"⟩ ∈ gw := gw_tbl (i := 760) (by decide +kernel) rfl
theorem w_761 : Cond.code ⟨"LineDiskModel", "firstOf", "(I)I"⟩ prog_7_method_12_code 2 (some .int) ∈ gw := gw_tbl (i := 761) (by decide +kernel) rfl
theorem w_762 : Cond.methodLink "LineDiskModel" 98 ⟨"LineDiskModel", "room", "(II)I"⟩ ∈ gw := gw_tbl (i := 762) (by decide +kernel) rfl
theorem w_764 : Cond.instanceMethod ⟨"LineDiskModel", "room", "(II)I"⟩ ∈ gw := gw_tbl (i := 764) (by decide +kernel) rfl
theorem w_765 : Cond.code ⟨"LineDiskModel", "room", "(II)I"⟩ prog_7_method_15_code 6 (some .int) ∈ gw := gw_tbl (i := 765) (by decide +kernel) rfl
theorem w_766 : Cond.methodLink "LineDiskModel" 90 ⟨"LineDiskModel", "used", "(II)Z"⟩ ∈ gw := gw_tbl (i := 766) (by decide +kernel) rfl
theorem w_768 : Cond.instanceMethod ⟨"LineDiskModel", "used", "(II)Z"⟩ ∈ gw := gw_tbl (i := 768) (by decide +kernel) rfl
theorem w_769 : Cond.code ⟨"LineDiskModel", "used", "(II)Z"⟩ prog_7_method_14_code 5 (some .boolean) ∈ gw := gw_tbl (i := 769) (by decide +kernel) rfl
theorem w_770 : Cond.methodLink "LineDiskModel" 87 ⟨"LineDiskModel", "blocksOf", "(I)I"⟩ ∈ gw := gw_tbl (i := 770) (by decide +kernel) rfl
theorem w_771 : Cond.static ⟨"LineDiskModel", "blocksOf", "(I)I"⟩ ∈ gw := gw_tbl (i := 771) (by decide +kernel) rfl
theorem w_772 : Cond.code ⟨"LineDiskModel", "blocksOf", "(I)I"⟩ prog_7_method_13_code 1 (some .int) ∈ gw := gw_tbl (i := 772) (by decide +kernel) rfl
theorem w_773 : Cond.methodLink "LineDiskModel" 102 ⟨"LineDiskModel", "directory", "(III)V"⟩ ∈ gw := gw_tbl (i := 773) (by decide +kernel) rfl
theorem w_775 : Cond.instanceMethod ⟨"LineDiskModel", "directory", "(III)V"⟩ ∈ gw := gw_tbl (i := 775) (by decide +kernel) rfl
theorem w_776 : Cond.code ⟨"LineDiskModel", "directory", "(III)V"⟩ prog_7_method_16_code 5 none ∈ gw := gw_tbl (i := 776) (by decide +kernel) rfl
theorem w_777 : Cond.methodLink "LineDiskModel" 106 ⟨"LineDiskModel", "commits", "()Z"⟩ ∈ gw := gw_tbl (i := 777) (by decide +kernel) rfl
theorem w_779 : Cond.instanceMethod ⟨"LineDiskModel", "commits", "()Z"⟩ ∈ gw := gw_tbl (i := 779) (by decide +kernel) rfl
theorem w_780 : Cond.code ⟨"LineDiskModel", "commits", "()Z"⟩ prog_7_method_9_code 2 (some .boolean) ∈ gw := gw_tbl (i := 780) (by decide +kernel) rfl
theorem w_781 : Cond.methodLink "LineDiskModel" 73 ⟨"LineDiskModel", "head", "()V"⟩ ∈ gw := gw_tbl (i := 781) (by decide +kernel) rfl
theorem w_783 : Cond.instanceMethod ⟨"LineDiskModel", "head", "()V"⟩ ∈ gw := gw_tbl (i := 783) (by decide +kernel) rfl
theorem w_784 : Cond.code ⟨"LineDiskModel", "head", "()V"⟩ prog_7_method_8_code 2 none ∈ gw := gw_tbl (i := 784) (by decide +kernel) rfl
theorem w_785 : Cond.methodLink "LineDiskModel" 175 ⟨"LineDiskModel", "last", "()I"⟩ ∈ gw := gw_tbl (i := 785) (by decide +kernel) rfl
theorem w_787 : Cond.instanceMethod ⟨"LineDiskModel", "last", "()I"⟩ ∈ gw := gw_tbl (i := 787) (by decide +kernel) rfl
theorem w_788 : Cond.code ⟨"LineDiskModel", "last", "()I"⟩ prog_7_method_33_code 1 (some .int) ∈ gw := gw_tbl (i := 788) (by decide +kernel) rfl
theorem w_789 : Cond.methodLink "LineDiskLaw" 40 ⟨"LineDiskModel", "feed", "(I)I"⟩ ∈ gw := gw_tbl (i := 789) (by decide +kernel) rfl
theorem w_790 : Cond.instanceMethod ⟨"LineDiskModel", "feed", "(I)I"⟩ ∈ gw := gw_tbl (i := 790) (by decide +kernel) rfl
theorem w_791 : Cond.selects "LineDiskModel" ⟨"LineDiskModel", "feed", "(I)I"⟩ ⟨"LineDiskModel", "feed", "(I)I"⟩ ∈ gw := gw_tbl (i := 791) (by decide +kernel) rfl
theorem w_792 : Cond.code ⟨"LineDiskModel", "feed", "(I)I"⟩ prog_7_method_41_code 3 (some .int) ∈ gw := gw_tbl (i := 792) (by decide +kernel) rfl
theorem w_793 : Cond.methodLink "LineDiskModel" 198 ⟨"LineDiskModel", "line", "()I"⟩ ∈ gw := gw_tbl (i := 793) (by decide +kernel) rfl
theorem w_795 : Cond.instanceMethod ⟨"LineDiskModel", "line", "()I"⟩ ∈ gw := gw_tbl (i := 795) (by decide +kernel) rfl
theorem w_796 : Cond.code ⟨"LineDiskModel", "line", "()I"⟩ prog_7_method_40_code 6 (some .int) ∈ gw := gw_tbl (i := 796) (by decide +kernel) rfl
theorem w_797 : Cond.methodLink "LineDiskModel" 94 ⟨"LineDiskModel", "lines", "()I"⟩ ∈ gw := gw_tbl (i := 797) (by decide +kernel) rfl
theorem w_799 : Cond.instanceMethod ⟨"LineDiskModel", "lines", "()I"⟩ ∈ gw := gw_tbl (i := 799) (by decide +kernel) rfl
theorem w_800 : Cond.code ⟨"LineDiskModel", "lines", "()I"⟩ prog_7_method_17_code 3 (some .int) ∈ gw := gw_tbl (i := 800) (by decide +kernel) rfl
theorem w_801 : Cond.methodLink "LineDiskModel" 201 ⟨"LineDiskModel", "command", "()I"⟩ ∈ gw := gw_tbl (i := 801) (by decide +kernel) rfl
theorem w_803 : Cond.instanceMethod ⟨"LineDiskModel", "command", "()I"⟩ ∈ gw := gw_tbl (i := 803) (by decide +kernel) rfl
theorem w_804 : Cond.code ⟨"LineDiskModel", "command", "()I"⟩ prog_7_method_39_code 6 (some .int) ∈ gw := gw_tbl (i := 804) (by decide +kernel) rfl
theorem w_805 : Cond.methodLink "LineDiskModel" 189 ⟨"LineDiskModel", "saves", "(I)I"⟩ ∈ gw := gw_tbl (i := 805) (by decide +kernel) rfl
theorem w_807 : Cond.instanceMethod ⟨"LineDiskModel", "saves", "(I)I"⟩ ∈ gw := gw_tbl (i := 807) (by decide +kernel) rfl
theorem w_808 : Cond.code ⟨"LineDiskModel", "saves", "(I)I"⟩ prog_7_method_18_code 9 (some .int) ∈ gw := gw_tbl (i := 808) (by decide +kernel) rfl
theorem w_809 : Cond.methodLink "LineDiskModel" 192 ⟨"LineDiskModel", "loads", "(I)I"⟩ ∈ gw := gw_tbl (i := 809) (by decide +kernel) rfl
theorem w_811 : Cond.instanceMethod ⟨"LineDiskModel", "loads", "(I)I"⟩ ∈ gw := gw_tbl (i := 811) (by decide +kernel) rfl
theorem w_812 : Cond.code ⟨"LineDiskModel", "loads", "(I)I"⟩ prog_7_method_19_code 7 (some .int) ∈ gw := gw_tbl (i := 812) (by decide +kernel) rfl
theorem w_813 : Cond.methodLink "LineDiskModel" 195 ⟨"LineDiskModel", "drops", "(I)I"⟩ ∈ gw := gw_tbl (i := 813) (by decide +kernel) rfl
theorem w_815 : Cond.instanceMethod ⟨"LineDiskModel", "drops", "(I)I"⟩ ∈ gw := gw_tbl (i := 815) (by decide +kernel) rfl
theorem w_816 : Cond.code ⟨"LineDiskModel", "drops", "(I)I"⟩ prog_7_method_20_code 3 (some .int) ∈ gw := gw_tbl (i := 816) (by decide +kernel) rfl
theorem w_817 : Cond.methodLink "LineDiskLaw" 50 ⟨"LineDiskModel", "arm", "(I)Z"⟩ ∈ gw := gw_tbl (i := 817) (by decide +kernel) rfl
theorem w_818 : Cond.instanceMethod ⟨"LineDiskModel", "arm", "(I)Z"⟩ ∈ gw := gw_tbl (i := 818) (by decide +kernel) rfl
theorem w_819 : Cond.selects "LineDiskModel" ⟨"LineDiskModel", "arm", "(I)Z"⟩ ⟨"LineDiskModel", "arm", "(I)Z"⟩ ∈ gw := gw_tbl (i := 819) (by decide +kernel) rfl
theorem w_820 : Cond.code ⟨"LineDiskModel", "arm", "(I)Z"⟩ prog_7_method_42_code 2 (some .boolean) ∈ gw := gw_tbl (i := 820) (by decide +kernel) rfl
theorem w_821 : Cond.methodLink "LineDiskLaw" 53 ⟨"LineDiskModel", "out", "(I)I"⟩ ∈ gw := gw_tbl (i := 821) (by decide +kernel) rfl
theorem w_822 : Cond.instanceMethod ⟨"LineDiskModel", "out", "(I)I"⟩ ∈ gw := gw_tbl (i := 822) (by decide +kernel) rfl
theorem w_823 : Cond.selects "LineDiskModel" ⟨"LineDiskModel", "out", "(I)I"⟩ ⟨"LineDiskModel", "out", "(I)I"⟩ ∈ gw := gw_tbl (i := 823) (by decide +kernel) rfl
theorem w_824 : Cond.code ⟨"LineDiskModel", "out", "(I)I"⟩ prog_7_method_43_code 2 (some .int) ∈ gw := gw_tbl (i := 824) (by decide +kernel) rfl
theorem w_825 : Cond.methodLink "LineDiskLaw" 57 ⟨"LineDiskModel", "outs", "()I"⟩ ∈ gw := gw_tbl (i := 825) (by decide +kernel) rfl
theorem w_826 : Cond.instanceMethod ⟨"LineDiskModel", "outs", "()I"⟩ ∈ gw := gw_tbl (i := 826) (by decide +kernel) rfl
theorem w_827 : Cond.selects "LineDiskModel" ⟨"LineDiskModel", "outs", "()I"⟩ ⟨"LineDiskModel", "outs", "()I"⟩ ∈ gw := gw_tbl (i := 827) (by decide +kernel) rfl
theorem w_828 : Cond.code ⟨"LineDiskModel", "outs", "()I"⟩ prog_7_method_44_code 1 (some .int) ∈ gw := gw_tbl (i := 828) (by decide +kernel) rfl
theorem w_829 : Cond.methodLink "LineDiskLaw" 60 ⟨"LineDiskModel", "disk", "(I)I"⟩ ∈ gw := gw_tbl (i := 829) (by decide +kernel) rfl
theorem w_830 : Cond.instanceMethod ⟨"LineDiskModel", "disk", "(I)I"⟩ ∈ gw := gw_tbl (i := 830) (by decide +kernel) rfl
theorem w_831 : Cond.selects "LineDiskModel" ⟨"LineDiskModel", "disk", "(I)I"⟩ ⟨"LineDiskModel", "disk", "(I)I"⟩ ∈ gw := gw_tbl (i := 831) (by decide +kernel) rfl
theorem w_832 : Cond.code ⟨"LineDiskModel", "disk", "(I)I"⟩ prog_7_method_45_code 2 (some .int) ∈ gw := gw_tbl (i := 832) (by decide +kernel) rfl
theorem w_833 : Cond.methodLink "LineDiskLaw" 64 ⟨"LineDiskModel", "files", "()I"⟩ ∈ gw := gw_tbl (i := 833) (by decide +kernel) rfl
theorem w_834 : Cond.instanceMethod ⟨"LineDiskModel", "files", "()I"⟩ ∈ gw := gw_tbl (i := 834) (by decide +kernel) rfl
theorem w_835 : Cond.selects "LineDiskModel" ⟨"LineDiskModel", "files", "()I"⟩ ⟨"LineDiskModel", "files", "()I"⟩ ∈ gw := gw_tbl (i := 835) (by decide +kernel) rfl
theorem w_836 : Cond.code ⟨"LineDiskModel", "files", "()I"⟩ prog_7_method_46_code 3 (some .int) ∈ gw := gw_tbl (i := 836) (by decide +kernel) rfl
theorem w_837 : Cond.methodLink "LineDiskLaw" 68 ⟨"LineDiskModel", "about", "(I)I"⟩ ∈ gw := gw_tbl (i := 837) (by decide +kernel) rfl
theorem w_838 : Cond.instanceMethod ⟨"LineDiskModel", "about", "(I)I"⟩ ∈ gw := gw_tbl (i := 838) (by decide +kernel) rfl
theorem w_839 : Cond.selects "LineDiskModel" ⟨"LineDiskModel", "about", "(I)I"⟩ ⟨"LineDiskModel", "about", "(I)I"⟩ ∈ gw := gw_tbl (i := 839) (by decide +kernel) rfl
theorem w_840 : Cond.code ⟨"LineDiskModel", "about", "(I)I"⟩ prog_7_method_47_code 3 (some .int) ∈ gw := gw_tbl (i := 840) (by decide +kernel) rfl
theorem w_841 : Cond.arrayClass .long ∈ gw := gw_tbl (i := 841) (by decide +kernel) rfl
theorem ws_0 : Cond.selects "LineDisk" ⟨"LineDisk", "died", "()I"⟩ ⟨"LineDisk", "died", "()I"⟩ ∈ gw := gw_sel (q := (⟨"LineDisk", "died", "()I"⟩, 6)) (i := 0) (by decide +kernel)
theorem ws_1 : Cond.selects "LineDisk" ⟨"LineDisk", "enterLine", "([II)I"⟩ ⟨"LineDisk", "enterLine", "([II)I"⟩ ∈ gw := gw_sel (q := (⟨"LineDisk", "enterLine", "([II)I"⟩, 6)) (i := 1) (by decide +kernel)
theorem ws_2 : Cond.selects "LineDisk$Workspace" ⟨"LineDisk$Workspace", "placeOf", "(I)I"⟩ ⟨"LineDisk$Workspace", "placeOf", "(I)I"⟩ ∈ gw := gw_sel (q := (⟨"LineDisk$Workspace", "placeOf", "(I)I"⟩, 9)) (i := 2) (by decide +kernel)
theorem ws_3 : Cond.selects "LineDisk$Workspace" ⟨"LineDisk$Workspace", "moveLines", "(II)V"⟩ ⟨"LineDisk$Workspace", "moveLines", "(II)V"⟩ ∈ gw := gw_sel (q := (⟨"LineDisk$Workspace", "moveLines", "(II)V"⟩, 9)) (i := 3) (by decide +kernel)
theorem ws_4 : Cond.selects "LineDisk$Statement" ⟨"LineDisk$Statement", "take", "([III[I)Z"⟩ ⟨"LineDisk$Statement", "take", "([III[I)Z"⟩ ∈ gw := gw_sel (q := (⟨"LineDisk$Statement", "take", "([III[I)Z"⟩, 12)) (i := 4) (by decide +kernel)
theorem ws_5 : Cond.selects "LineDisk$Statement" ⟨"LineDisk$Statement", "variable", "()I"⟩ ⟨"LineDisk$Statement", "variable", "()I"⟩ ∈ gw := gw_sel (q := (⟨"LineDisk$Statement", "variable", "()I"⟩, 12)) (i := 5) (by decide +kernel)
theorem ws_6 : Cond.selects "LineDisk$Statement" ⟨"LineDisk$Statement", "peek", "()I"⟩ ⟨"LineDisk$Statement", "peek", "()I"⟩ ∈ gw := gw_sel (q := (⟨"LineDisk$Statement", "peek", "()I"⟩, 12)) (i := 6) (by decide +kernel)
theorem ws_7 : Cond.selects "LineDisk$Statement" ⟨"LineDisk$Statement", "expect", "(I)V"⟩ ⟨"LineDisk$Statement", "expect", "(I)V"⟩ ∈ gw := gw_sel (q := (⟨"LineDisk$Statement", "expect", "(I)V"⟩, 12)) (i := 7) (by decide +kernel)
theorem ws_8 : Cond.selects "LineDisk$Statement" ⟨"LineDisk$Statement", "value", "(I)I"⟩ ⟨"LineDisk$Statement", "value", "(I)I"⟩ ∈ gw := gw_sel (q := (⟨"LineDisk$Statement", "value", "(I)I"⟩, 12)) (i := 8) (by decide +kernel)
theorem ws_9 : Cond.selects "LineDisk$Statement" ⟨"LineDisk$Statement", "product", "(I)I"⟩ ⟨"LineDisk$Statement", "product", "(I)I"⟩ ∈ gw := gw_sel (q := (⟨"LineDisk$Statement", "product", "(I)I"⟩, 12)) (i := 9) (by decide +kernel)
theorem ws_10 : Cond.selects "LineDisk$Statement" ⟨"LineDisk$Statement", "piece", "(I)I"⟩ ⟨"LineDisk$Statement", "piece", "(I)I"⟩ ∈ gw := gw_sel (q := (⟨"LineDisk$Statement", "piece", "(I)I"⟩, 12)) (i := 10) (by decide +kernel)
theorem ws_11 : Cond.selects "LineDisk$Statement" ⟨"LineDisk$Statement", "digits", "(I)I"⟩ ⟨"LineDisk$Statement", "digits", "(I)I"⟩ ∈ gw := gw_sel (q := (⟨"LineDisk$Statement", "digits", "(I)I"⟩, 12)) (i := 11) (by decide +kernel)
theorem ws_12 : Cond.selects "LineDisk$Statement" ⟨"LineDisk$Statement", "sign", "()I"⟩ ⟨"LineDisk$Statement", "sign", "()I"⟩ ∈ gw := gw_sel (q := (⟨"LineDisk$Statement", "sign", "()I"⟩, 12)) (i := 12) (by decide +kernel)
theorem ws_13 : Cond.selects "LineDisk$Statement" ⟨"LineDisk$Statement", "lineNumber", "()I"⟩ ⟨"LineDisk$Statement", "lineNumber", "()I"⟩ ∈ gw := gw_sel (q := (⟨"LineDisk$Statement", "lineNumber", "()I"⟩, 12)) (i := 13) (by decide +kernel)
theorem ws_14 : Cond.selects "LineDisk$Statement" ⟨"LineDisk$Statement", "fileDigit", "()I"⟩ ⟨"LineDisk$Statement", "fileDigit", "()I"⟩ ∈ gw := gw_sel (q := (⟨"LineDisk$Statement", "fileDigit", "()I"⟩, 12)) (i := 14) (by decide +kernel)
theorem ws_15 : Cond.selects "LineDisk" ⟨"LineDisk", "enterCommand", "([II)I"⟩ ⟨"LineDisk", "enterCommand", "([II)I"⟩ ∈ gw := gw_sel (q := (⟨"LineDisk", "enterCommand", "([II)I"⟩, 6)) (i := 15) (by decide +kernel)
theorem ws_16 : Cond.selects "LineDisk" ⟨"LineDisk", "plainCommand", "(I)I"⟩ ⟨"LineDisk", "plainCommand", "(I)I"⟩ ∈ gw := gw_sel (q := (⟨"LineDisk", "plainCommand", "(I)I"⟩, 6)) (i := 16) (by decide +kernel)
theorem ws_17 : Cond.selects "LineDisk" ⟨"LineDisk", "listFiles", "()I"⟩ ⟨"LineDisk", "listFiles", "()I"⟩ ∈ gw := gw_sel (q := (⟨"LineDisk", "listFiles", "()I"⟩, 6)) (i := 17) (by decide +kernel)
theorem ws_18 : Cond.selects "LineDisk" ⟨"LineDisk", "putOut", "(I)V"⟩ ⟨"LineDisk", "putOut", "(I)V"⟩ ∈ gw := gw_sel (q := (⟨"LineDisk", "putOut", "(I)V"⟩, 6)) (i := 18) (by decide +kernel)
theorem ws_19 : Cond.selects "LineDisk" ⟨"LineDisk", "fileCommand", "(II)I"⟩ ⟨"LineDisk", "fileCommand", "(II)I"⟩ ∈ gw := gw_sel (q := (⟨"LineDisk", "fileCommand", "(II)I"⟩, 6)) (i := 19) (by decide +kernel)
theorem ws_20 : Cond.selects "LineDisk" ⟨"LineDisk", "saveLines", "(I)I"⟩ ⟨"LineDisk", "saveLines", "(I)I"⟩ ∈ gw := gw_sel (q := (⟨"LineDisk", "saveLines", "(I)I"⟩, 6)) (i := 20) (by decide +kernel)
theorem ws_21 : Cond.selects "LineDisk$Store" ⟨"LineDisk$Store", "isFreeFor", "(III)Z"⟩ ⟨"LineDisk$Store", "isFreeFor", "(III)Z"⟩ ∈ gw := gw_sel (q := (⟨"LineDisk$Store", "isFreeFor", "(III)Z"⟩, 4)) (i := 21) (by decide +kernel)
theorem ws_22 : Cond.selects "LineDisk" ⟨"LineDisk", "beginFile", "(III)V"⟩ ⟨"LineDisk", "beginFile", "(III)V"⟩ ∈ gw := gw_sel (q := (⟨"LineDisk", "beginFile", "(III)V"⟩, 6)) (i := 22) (by decide +kernel)
theorem ws_23 : Cond.selects "LineDisk" ⟨"LineDisk", "commit", "()I"⟩ ⟨"LineDisk", "commit", "()I"⟩ ∈ gw := gw_sel (q := (⟨"LineDisk", "commit", "()I"⟩, 6)) (i := 23) (by decide +kernel)
theorem ws_24 : Cond.selects "LineDisk" ⟨"LineDisk", "loadLines", "(I)I"⟩ ⟨"LineDisk", "loadLines", "(I)I"⟩ ∈ gw := gw_sel (q := (⟨"LineDisk", "loadLines", "(I)I"⟩, 6)) (i := 24) (by decide +kernel)
theorem ws_25 : Cond.selects "LineDisk$Workspace" ⟨"LineDisk$Workspace", "unpack", "(II)V"⟩ ⟨"LineDisk$Workspace", "unpack", "(II)V"⟩ ∈ gw := gw_sel (q := (⟨"LineDisk$Workspace", "unpack", "(II)V"⟩, 9)) (i := 25) (by decide +kernel)
theorem ws_26 : Cond.selects "LineDisk" ⟨"LineDisk", "deleteFile", "(I)I"⟩ ⟨"LineDisk", "deleteFile", "(I)I"⟩ ∈ gw := gw_sel (q := (⟨"LineDisk", "deleteFile", "(I)I"⟩, 6)) (i := 26) (by decide +kernel)
theorem ws_27 : Cond.selects "LineDisk" ⟨"LineDisk", "oneStep", "()I"⟩ ⟨"LineDisk", "oneStep", "()I"⟩ ∈ gw := gw_sel (q := (⟨"LineDisk", "oneStep", "()I"⟩, 6)) (i := 27) (by decide +kernel)
theorem ws_28 : Cond.selects "LineDisk" ⟨"LineDisk", "perform", "()I"⟩ ⟨"LineDisk", "perform", "()I"⟩ ∈ gw := gw_sel (q := (⟨"LineDisk", "perform", "()I"⟩, 6)) (i := 28) (by decide +kernel)
theorem ws_29 : Cond.selects "LineDisk" ⟨"LineDisk", "writeRecord", "(III)I"⟩ ⟨"LineDisk", "writeRecord", "(III)I"⟩ ∈ gw := gw_sel (q := (⟨"LineDisk", "writeRecord", "(III)I"⟩, 6)) (i := 29) (by decide +kernel)
theorem ws_30 : Cond.selects "LineDisk" ⟨"LineDisk", "recordFault", "(II)I"⟩ ⟨"LineDisk", "recordFault", "(II)I"⟩ ∈ gw := gw_sel (q := (⟨"LineDisk", "recordFault", "(II)I"⟩, 6)) (i := 30) (by decide +kernel)
theorem ws_31 : Cond.selects "LineDisk" ⟨"LineDisk", "readRecord", "(III)I"⟩ ⟨"LineDisk", "readRecord", "(III)I"⟩ ∈ gw := gw_sel (q := (⟨"LineDisk", "readRecord", "(III)I"⟩, 6)) (i := 31) (by decide +kernel)
theorem ws_32 : Cond.selects "java/lang/Throwable" ⟨"java/lang/Throwable", "fillInStackTrace", "(I)Ljava/lang/Throwable;"⟩ ⟨"java/lang/Throwable", "fillInStackTrace", "(I)Ljava/lang/Throwable;"⟩ ∈ gw := gw_sel (q := (⟨"java/lang/Throwable", "fillInStackTrace", "(I)Ljava/lang/Throwable;"⟩, 6)) (i := 32) (by decide +kernel)
theorem ws_33 : Cond.selects "LineDiskModel" ⟨"LineDiskModel", "nothing", "()V"⟩ ⟨"LineDiskModel", "nothing", "()V"⟩ ∈ gw := gw_sel (q := (⟨"LineDiskModel", "nothing", "()V"⟩, 25)) (i := 33) (by decide +kernel)
theorem ws_34 : Cond.selects "LineDiskModel" ⟨"LineDiskModel", "write", "(II)V"⟩ ⟨"LineDiskModel", "write", "(II)V"⟩ ∈ gw := gw_sel (q := (⟨"LineDiskModel", "write", "(II)V"⟩, 25)) (i := 34) (by decide +kernel)
theorem ws_35 : Cond.selects "LineDiskModel" ⟨"LineDiskModel", "dies", "()V"⟩ ⟨"LineDiskModel", "dies", "()V"⟩ ∈ gw := gw_sel (q := (⟨"LineDiskModel", "dies", "()V"⟩, 25)) (i := 35) (by decide +kernel)
theorem ws_36 : Cond.selects "LineDiskModel" ⟨"LineDiskModel", "formatted", "()Z"⟩ ⟨"LineDiskModel", "formatted", "()Z"⟩ ∈ gw := gw_sel (q := (⟨"LineDiskModel", "formatted", "()Z"⟩, 25)) (i := 36) (by decide +kernel)
theorem ws_37 : Cond.selects "LineDiskModel" ⟨"LineDiskModel", "nextLine", "()I"⟩ ⟨"LineDiskModel", "nextLine", "()I"⟩ ∈ gw := gw_sel (q := (⟨"LineDiskModel", "nextLine", "()I"⟩, 25)) (i := 37) (by decide +kernel)
theorem ws_38 : Cond.selects "LineDiskModel" ⟨"LineDiskModel", "goThrough", "(ZII)V"⟩ ⟨"LineDiskModel", "goThrough", "(ZII)V"⟩ ∈ gw := gw_sel (q := (⟨"LineDiskModel", "goThrough", "(ZII)V"⟩, 25)) (i := 38) (by decide +kernel)
theorem ws_39 : Cond.selects "LineDiskModel" ⟨"LineDiskModel", "statement", "(ZI)I"⟩ ⟨"LineDiskModel", "statement", "(ZI)I"⟩ ∈ gw := gw_sel (q := (⟨"LineDiskModel", "statement", "(ZI)I"⟩, 25)) (i := 39) (by decide +kernel)
theorem ws_40 : Cond.selects "LineDiskModel" ⟨"LineDiskModel", "here", "()I"⟩ ⟨"LineDiskModel", "here", "()I"⟩ ∈ gw := gw_sel (q := (⟨"LineDiskModel", "here", "()I"⟩, 25)) (i := 40) (by decide +kernel)
theorem ws_41 : Cond.selects "LineDiskModel" ⟨"LineDiskModel", "must", "(I)V"⟩ ⟨"LineDiskModel", "must", "(I)V"⟩ ∈ gw := gw_sel (q := (⟨"LineDiskModel", "must", "(I)V"⟩, 25)) (i := 41) (by decide +kernel)
theorem ws_42 : Cond.selects "LineDiskModel" ⟨"LineDiskModel", "takes", "(I)Z"⟩ ⟨"LineDiskModel", "takes", "(I)Z"⟩ ∈ gw := gw_sel (q := (⟨"LineDiskModel", "takes", "(I)Z"⟩, 25)) (i := 42) (by decide +kernel)
theorem ws_43 : Cond.selects "LineDiskModel" ⟨"LineDiskModel", "value", "()I"⟩ ⟨"LineDiskModel", "value", "()I"⟩ ∈ gw := gw_sel (q := (⟨"LineDiskModel", "value", "()I"⟩, 25)) (i := 43) (by decide +kernel)
theorem ws_44 : Cond.selects "LineDiskModel" ⟨"LineDiskModel", "piece", "()Z"⟩ ⟨"LineDiskModel", "piece", "()Z"⟩ ∈ gw := gw_sel (q := (⟨"LineDiskModel", "piece", "()Z"⟩, 25)) (i := 44) (by decide +kernel)
theorem ws_45 : Cond.selects "LineDiskModel" ⟨"LineDiskModel", "reduce", "()V"⟩ ⟨"LineDiskModel", "reduce", "()V"⟩ ∈ gw := gw_sel (q := (⟨"LineDiskModel", "reduce", "()V"⟩, 25)) (i := 45) (by decide +kernel)
theorem ws_46 : Cond.selects "LineDiskModel" ⟨"LineDiskModel", "comesOut", "(I)V"⟩ ⟨"LineDiskModel", "comesOut", "(I)V"⟩ ∈ gw := gw_sel (q := (⟨"LineDiskModel", "comesOut", "(I)V"⟩, 25)) (i := 46) (by decide +kernel)
theorem ws_47 : Cond.selects "LineDiskModel" ⟨"LineDiskModel", "lineNumber", "()I"⟩ ⟨"LineDiskModel", "lineNumber", "()I"⟩ ∈ gw := gw_sel (q := (⟨"LineDiskModel", "lineNumber", "()I"⟩, 25)) (i := 47) (by decide +kernel)
theorem ws_48 : Cond.selects "LineDiskModel" ⟨"LineDiskModel", "digit", "()I"⟩ ⟨"LineDiskModel", "digit", "()I"⟩ ∈ gw := gw_sel (q := (⟨"LineDiskModel", "digit", "()I"⟩, 25)) (i := 48) (by decide +kernel)
theorem ws_49 : Cond.selects "LineDiskModel" ⟨"LineDiskModel", "recordStep", "(IIII)I"⟩ ⟨"LineDiskModel", "recordStep", "(IIII)I"⟩ ∈ gw := gw_sel (q := (⟨"LineDiskModel", "recordStep", "(IIII)I"⟩, 25)) (i := 49) (by decide +kernel)
theorem ws_50 : Cond.selects "LineDiskModel" ⟨"LineDiskModel", "sizeOf", "(I)I"⟩ ⟨"LineDiskModel", "sizeOf", "(I)I"⟩ ∈ gw := gw_sel (q := (⟨"LineDiskModel", "sizeOf", "(I)I"⟩, 25)) (i := 50) (by decide +kernel)
theorem ws_51 : Cond.selects "LineDiskModel" ⟨"LineDiskModel", "firstOf", "(I)I"⟩ ⟨"LineDiskModel", "firstOf", "(I)I"⟩ ∈ gw := gw_sel (q := (⟨"LineDiskModel", "firstOf", "(I)I"⟩, 25)) (i := 51) (by decide +kernel)
theorem ws_52 : Cond.selects "LineDiskModel" ⟨"LineDiskModel", "room", "(II)I"⟩ ⟨"LineDiskModel", "room", "(II)I"⟩ ∈ gw := gw_sel (q := (⟨"LineDiskModel", "room", "(II)I"⟩, 25)) (i := 52) (by decide +kernel)
theorem ws_53 : Cond.selects "LineDiskModel" ⟨"LineDiskModel", "used", "(II)Z"⟩ ⟨"LineDiskModel", "used", "(II)Z"⟩ ∈ gw := gw_sel (q := (⟨"LineDiskModel", "used", "(II)Z"⟩, 25)) (i := 53) (by decide +kernel)
theorem ws_54 : Cond.selects "LineDiskModel" ⟨"LineDiskModel", "directory", "(III)V"⟩ ⟨"LineDiskModel", "directory", "(III)V"⟩ ∈ gw := gw_sel (q := (⟨"LineDiskModel", "directory", "(III)V"⟩, 25)) (i := 54) (by decide +kernel)
theorem ws_55 : Cond.selects "LineDiskModel" ⟨"LineDiskModel", "commits", "()Z"⟩ ⟨"LineDiskModel", "commits", "()Z"⟩ ∈ gw := gw_sel (q := (⟨"LineDiskModel", "commits", "()Z"⟩, 25)) (i := 55) (by decide +kernel)
theorem ws_56 : Cond.selects "LineDiskModel" ⟨"LineDiskModel", "head", "()V"⟩ ⟨"LineDiskModel", "head", "()V"⟩ ∈ gw := gw_sel (q := (⟨"LineDiskModel", "head", "()V"⟩, 25)) (i := 56) (by decide +kernel)
theorem ws_57 : Cond.selects "LineDiskModel" ⟨"LineDiskModel", "last", "()I"⟩ ⟨"LineDiskModel", "last", "()I"⟩ ∈ gw := gw_sel (q := (⟨"LineDiskModel", "last", "()I"⟩, 25)) (i := 57) (by decide +kernel)
theorem ws_58 : Cond.selects "LineDiskModel" ⟨"LineDiskModel", "line", "()I"⟩ ⟨"LineDiskModel", "line", "()I"⟩ ∈ gw := gw_sel (q := (⟨"LineDiskModel", "line", "()I"⟩, 25)) (i := 58) (by decide +kernel)
theorem ws_59 : Cond.selects "LineDiskModel" ⟨"LineDiskModel", "lines", "()I"⟩ ⟨"LineDiskModel", "lines", "()I"⟩ ∈ gw := gw_sel (q := (⟨"LineDiskModel", "lines", "()I"⟩, 25)) (i := 59) (by decide +kernel)
theorem ws_60 : Cond.selects "LineDiskModel" ⟨"LineDiskModel", "command", "()I"⟩ ⟨"LineDiskModel", "command", "()I"⟩ ∈ gw := gw_sel (q := (⟨"LineDiskModel", "command", "()I"⟩, 25)) (i := 60) (by decide +kernel)
theorem ws_61 : Cond.selects "LineDiskModel" ⟨"LineDiskModel", "saves", "(I)I"⟩ ⟨"LineDiskModel", "saves", "(I)I"⟩ ∈ gw := gw_sel (q := (⟨"LineDiskModel", "saves", "(I)I"⟩, 25)) (i := 61) (by decide +kernel)
theorem ws_62 : Cond.selects "LineDiskModel" ⟨"LineDiskModel", "loads", "(I)I"⟩ ⟨"LineDiskModel", "loads", "(I)I"⟩ ∈ gw := gw_sel (q := (⟨"LineDiskModel", "loads", "(I)I"⟩, 25)) (i := 62) (by decide +kernel)
theorem ws_63 : Cond.selects "LineDiskModel" ⟨"LineDiskModel", "drops", "(I)I"⟩ ⟨"LineDiskModel", "drops", "(I)I"⟩ ∈ gw := gw_sel (q := (⟨"LineDiskModel", "drops", "(I)I"⟩, 25)) (i := 63) (by decide +kernel)
