theorem k2_35 : tables_1_2[35]? = some (Jvm.Cond.methodLink "RingGuardLaw" (120 : Nat) ({ cls := "RingGuard", name := "visits", desc := "()I" } : Jvm.MethodName)) := by decide +kernel
theorem k2_36 : tables_1_2[36]? = some (Jvm.Cond.instanceMethod ({ cls := "RingGuard", name := "visits", desc := "()I" } : Jvm.MethodName)) := by decide +kernel
theorem k2_37 : tables_1_2[37]? = some (Jvm.Cond.selects "RingGuard" ({ cls := "RingGuard", name := "visits", desc := "()I" } : Jvm.MethodName) ({ cls := "RingGuard", name := "visits", desc := "()I" } : Jvm.MethodName)) := by decide +kernel
theorem k2_38 : tables_1_2[38]? = some (Jvm.Cond.code ({ cls := "RingGuard", name := "visits", desc := "()I" } : Jvm.MethodName) prog_1_method_14_code (1 : Nat) (Option.some Jvm.ClassFile.FieldType.int)) := rfl
theorem k3_142 : tables_1_3[142]? = some (Jvm.Cond.methodLink "RingGuardLaw" (108 : Nat) ({ cls := "RingGuardLaw", name := "clear", desc := "(LRingGuard;II[J)I" } : Jvm.MethodName)) := by decide +kernel
theorem k3_143 : tables_1_3[143]? = some (Jvm.Cond.static ({ cls := "RingGuardLaw", name := "clear", desc := "(LRingGuard;II[J)I" } : Jvm.MethodName)) := by decide +kernel
theorem k3_144 : tables_1_3[144]? = some (Jvm.Cond.codeWith ({ cls := "RingGuardLaw", name := "clear", desc := "(LRingGuard;II[J)I" } : Jvm.MethodName) method_11_code (5 : Nat) (Option.some Jvm.ClassFile.FieldType.int) [((0 : Nat), (17 : Nat), (20 : Nat), (19 : Nat)), ((0 : Nat), (17 : Nat), (24 : Nat), (13 : Nat))]) := rfl
theorem k3_150 : tables_1_3[150]? = some (Jvm.Cond.methodLink "RingGuardLaw" (111 : Nat) ({ cls := "RingGuardLaw", name := "ticks", desc := "(LRingGuard;I[J)I" } : Jvm.MethodName)) := by decide +kernel
theorem k3_151 : tables_1_3[151]? = some (Jvm.Cond.static ({ cls := "RingGuardLaw", name := "ticks", desc := "(LRingGuard;I[J)I" } : Jvm.MethodName)) := by decide +kernel
theorem k3_152 : tables_1_3[152]? = some (Jvm.Cond.codeWith ({ cls := "RingGuardLaw", name := "ticks", desc := "(LRingGuard;I[J)I" } : Jvm.MethodName) method_12_code (4 : Nat) (Option.some Jvm.ClassFile.FieldType.int) [((0 : Nat), (9 : Nat), (12 : Nat), (19 : Nat)), ((0 : Nat), (9 : Nat), (15 : Nat), (13 : Nat))]) := rfl
theorem k4_20 : tables_1_4[20]? = some (Jvm.Cond.methodLink "RingGuardLaw" (114 : Nat) ({ cls := "RingGuardLaw", name := "host", desc := "(LRingGuard;II[J)I" } : Jvm.MethodName)) := by decide +kernel
theorem k4_21 : tables_1_4[21]? = some (Jvm.Cond.static ({ cls := "RingGuardLaw", name := "host", desc := "(LRingGuard;II[J)I" } : Jvm.MethodName)) := by decide +kernel
theorem k4_22 : tables_1_4[22]? = some (Jvm.Cond.codeWith ({ cls := "RingGuardLaw", name := "host", desc := "(LRingGuard;II[J)I" } : Jvm.MethodName) method_13_code (5 : Nat) (Option.some Jvm.ClassFile.FieldType.int) [((0 : Nat), (10 : Nat), (13 : Nat), (19 : Nat)), ((0 : Nat), (10 : Nat), (17 : Nat), (13 : Nat))]) := rfl
theorem k4_36 : tables_1_4[36]? = some (Jvm.Cond.methodLink "RingGuardLaw" (117 : Nat) ({ cls := "RingGuardLaw", name := "send", desc := "(LRingGuard;III[J)I" } : Jvm.MethodName)) := by decide +kernel
theorem k4_37 : tables_1_4[37]? = some (Jvm.Cond.static ({ cls := "RingGuardLaw", name := "send", desc := "(LRingGuard;III[J)I" } : Jvm.MethodName)) := by decide +kernel
theorem k4_38 : tables_1_4[38]? = some (Jvm.Cond.codeWith ({ cls := "RingGuardLaw", name := "send", desc := "(LRingGuard;III[J)I" } : Jvm.MethodName) method_14_code (6 : Nat) (Option.some Jvm.ClassFile.FieldType.int) [((0 : Nat), (12 : Nat), (15 : Nat), (19 : Nat)), ((0 : Nat), (12 : Nat), (19 : Nat), (13 : Nat))]) := rfl
theorem k4_78 : tables_1_4[78]? = some (Jvm.Cond.methodLink "RingGuardLaw" (124 : Nat) ({ cls := "RingGuardLaw", name := "holds", desc := "(LRingGuard;II[J)I" } : Jvm.MethodName)) := by decide +kernel
theorem k4_79 : tables_1_4[79]? = some (Jvm.Cond.static ({ cls := "RingGuardLaw", name := "holds", desc := "(LRingGuard;II[J)I" } : Jvm.MethodName)) := by decide +kernel
theorem k4_80 : tables_1_4[80]? = some (Jvm.Cond.codeWith ({ cls := "RingGuardLaw", name := "holds", desc := "(LRingGuard;II[J)I" } : Jvm.MethodName) method_15_code (5 : Nat) (Option.some Jvm.ClassFile.FieldType.int) [((0 : Nat), (10 : Nat), (13 : Nat), (19 : Nat))]) := rfl
theorem k4_85 : tables_1_4[85]? = some (Jvm.Cond.methodLink "RingGuardLaw" (127 : Nat) ({ cls := "RingGuardLaw", name := "told", desc := "(LRingGuard;III[J)I" } : Jvm.MethodName)) := by decide +kernel
theorem k4_86 : tables_1_4[86]? = some (Jvm.Cond.static ({ cls := "RingGuardLaw", name := "told", desc := "(LRingGuard;III[J)I" } : Jvm.MethodName)) := by decide +kernel
theorem k4_87 : tables_1_4[87]? = some (Jvm.Cond.codeWith ({ cls := "RingGuardLaw", name := "told", desc := "(LRingGuard;III[J)I" } : Jvm.MethodName) method_16_code (6 : Nat) (Option.some Jvm.ClassFile.FieldType.int) [((0 : Nat), (12 : Nat), (15 : Nat), (19 : Nat))]) := rfl
theorem k5_180 : tables_1_5[180]? = some (Jvm.Cond.methodLink "RingGuardLaw" (110 : Nat) ({ cls := "RingGuardModel", name := "clear", desc := "(II)Z" } : Jvm.MethodName)) := by decide +kernel
theorem k5_181 : tables_1_5[181]? = some (Jvm.Cond.instanceMethod ({ cls := "RingGuardModel", name := "clear", desc := "(II)Z" } : Jvm.MethodName)) := by decide +kernel
theorem k5_182 : tables_1_5[182]? = some (Jvm.Cond.selects "RingGuardModel" ({ cls := "RingGuardModel", name := "clear", desc := "(II)Z" } : Jvm.MethodName) ({ cls := "RingGuardModel", name := "clear", desc := "(II)Z" } : Jvm.MethodName)) := by decide +kernel
theorem k5_183 : tables_1_5[183]? = some (Jvm.Cond.code ({ cls := "RingGuardModel", name := "clear", desc := "(II)Z" } : Jvm.MethodName) prog_10_method_35_code (4 : Nat) (Option.some Jvm.ClassFile.FieldType.boolean)) := rfl
theorem k5_184 : tables_1_5[184]? = some (Jvm.Cond.methodLink "RingGuardLaw" (113 : Nat) ({ cls := "RingGuardModel", name := "ticks", desc := "(I)I" } : Jvm.MethodName)) := by decide +kernel
theorem k5_185 : tables_1_5[185]? = some (Jvm.Cond.instanceMethod ({ cls := "RingGuardModel", name := "ticks", desc := "(I)I" } : Jvm.MethodName)) := by decide +kernel
theorem k5_186 : tables_1_5[186]? = some (Jvm.Cond.selects "RingGuardModel" ({ cls := "RingGuardModel", name := "ticks", desc := "(I)I" } : Jvm.MethodName) ({ cls := "RingGuardModel", name := "ticks", desc := "(I)I" } : Jvm.MethodName)) := by decide +kernel
theorem k5_187 : tables_1_5[187]? = some (Jvm.Cond.code ({ cls := "RingGuardModel", name := "ticks", desc := "(I)I" } : Jvm.MethodName) prog_10_method_46_code (3 : Nat) (Option.some Jvm.ClassFile.FieldType.int)) := rfl
theorem k5_224 : tables_1_5[224]? = some (Jvm.Cond.methodLink "RingGuardLaw" (116 : Nat) ({ cls := "RingGuardModel", name := "host", desc := "(II)I" } : Jvm.MethodName)) := by decide +kernel
theorem k5_225 : tables_1_5[225]? = some (Jvm.Cond.instanceMethod ({ cls := "RingGuardModel", name := "host", desc := "(II)I" } : Jvm.MethodName)) := by decide +kernel
theorem k5_226 : tables_1_5[226]? = some (Jvm.Cond.selects "RingGuardModel" ({ cls := "RingGuardModel", name := "host", desc := "(II)I" } : Jvm.MethodName) ({ cls := "RingGuardModel", name := "host", desc := "(II)I" } : Jvm.MethodName)) := by decide +kernel
theorem k5_227 : tables_1_5[227]? = some (Jvm.Cond.code ({ cls := "RingGuardModel", name := "host", desc := "(II)I" } : Jvm.MethodName) prog_10_method_51_code (6 : Nat) (Option.some Jvm.ClassFile.FieldType.int)) := rfl
theorem k5_228 : tables_1_5[228]? = some (Jvm.Cond.methodLink "RingGuardLaw" (119 : Nat) ({ cls := "RingGuardModel", name := "send", desc := "(III)I" } : Jvm.MethodName)) := by decide +kernel
theorem k5_229 : tables_1_5[229]? = some (Jvm.Cond.instanceMethod ({ cls := "RingGuardModel", name := "send", desc := "(III)I" } : Jvm.MethodName)) := by decide +kernel
theorem k5_230 : tables_1_5[230]? = some (Jvm.Cond.selects "RingGuardModel" ({ cls := "RingGuardModel", name := "send", desc := "(III)I" } : Jvm.MethodName) ({ cls := "RingGuardModel", name := "send", desc := "(III)I" } : Jvm.MethodName)) := by decide +kernel
theorem k5_231 : tables_1_5[231]? = some (Jvm.Cond.code ({ cls := "RingGuardModel", name := "send", desc := "(III)I" } : Jvm.MethodName) prog_10_method_53_code (12 : Nat) (Option.some Jvm.ClassFile.FieldType.int)) := rfl
theorem k6_0 : tables_1_6[0]? = some (Jvm.Cond.methodLink "RingGuardLaw" (123 : Nat) ({ cls := "RingGuardModel", name := "visits", desc := "()I" } : Jvm.MethodName)) := by decide +kernel
theorem k6_1 : tables_1_6[1]? = some (Jvm.Cond.instanceMethod ({ cls := "RingGuardModel", name := "visits", desc := "()I" } : Jvm.MethodName)) := by decide +kernel
theorem k6_2 : tables_1_6[2]? = some (Jvm.Cond.selects "RingGuardModel" ({ cls := "RingGuardModel", name := "visits", desc := "()I" } : Jvm.MethodName) ({ cls := "RingGuardModel", name := "visits", desc := "()I" } : Jvm.MethodName)) := by decide +kernel
theorem k6_3 : tables_1_6[3]? = some (Jvm.Cond.code ({ cls := "RingGuardModel", name := "visits", desc := "()I" } : Jvm.MethodName) prog_10_method_54_code (1 : Nat) (Option.some Jvm.ClassFile.FieldType.int)) := rfl
theorem k6_4 : tables_1_6[4]? = some (Jvm.Cond.methodLink "RingGuardLaw" (126 : Nat) ({ cls := "RingGuardModel", name := "holds", desc := "(II)I" } : Jvm.MethodName)) := by decide +kernel
theorem k6_5 : tables_1_6[5]? = some (Jvm.Cond.instanceMethod ({ cls := "RingGuardModel", name := "holds", desc := "(II)I" } : Jvm.MethodName)) := by decide +kernel
theorem k6_6 : tables_1_6[6]? = some (Jvm.Cond.selects "RingGuardModel" ({ cls := "RingGuardModel", name := "holds", desc := "(II)I" } : Jvm.MethodName) ({ cls := "RingGuardModel", name := "holds", desc := "(II)I" } : Jvm.MethodName)) := by decide +kernel
theorem k6_7 : tables_1_6[7]? = some (Jvm.Cond.code ({ cls := "RingGuardModel", name := "holds", desc := "(II)I" } : Jvm.MethodName) prog_10_method_55_code (3 : Nat) (Option.some Jvm.ClassFile.FieldType.int)) := rfl
theorem k6_8 : tables_1_6[8]? = some (Jvm.Cond.methodLink "RingGuardLaw" (129 : Nat) ({ cls := "RingGuardModel", name := "told", desc := "(III)I" } : Jvm.MethodName)) := by decide +kernel
theorem k6_9 : tables_1_6[9]? = some (Jvm.Cond.instanceMethod ({ cls := "RingGuardModel", name := "told", desc := "(III)I" } : Jvm.MethodName)) := by decide +kernel
theorem k6_10 : tables_1_6[10]? = some (Jvm.Cond.selects "RingGuardModel" ({ cls := "RingGuardModel", name := "told", desc := "(III)I" } : Jvm.MethodName) ({ cls := "RingGuardModel", name := "told", desc := "(III)I" } : Jvm.MethodName)) := by decide +kernel
theorem k6_11 : tables_1_6[11]? = some (Jvm.Cond.code ({ cls := "RingGuardModel", name := "told", desc := "(III)I" } : Jvm.MethodName) prog_10_method_56_code (4 : Nat) (Option.some Jvm.ClassFile.FieldType.int)) := rfl
theorem dLA_law_468 : decode bLA_law 468 = .ok (.aload_n 1, 1) := by decide +kernel
theorem dLA_law_469 : decode bLA_law 469 = .ok (.aload_n 0, 1) := by decide +kernel
theorem dLA_law_470 : decode bLA_law 470 = .ok (.iload 4, 2) := by decide +kernel
theorem dLA_law_472 : decode bLA_law 472 = .ok (.iconst 1, 1) := by decide +kernel
theorem dLA_law_473 : decode bLA_law 473 = .ok (.iadd, 1) := by decide +kernel
theorem dLA_law_474 : decode bLA_law 474 = .ok (.iaload, 1) := by decide +kernel
theorem dLA_law_475 : decode bLA_law 475 = .ok (.aload_n 0, 1) := by decide +kernel
theorem dLA_law_476 : decode bLA_law 476 = .ok (.iload 4, 2) := by decide +kernel
theorem dLA_law_478 : decode bLA_law 478 = .ok (.iconst 2, 1) := by decide +kernel
theorem dLA_law_479 : decode bLA_law 479 = .ok (.iadd, 1) := by decide +kernel
theorem dLA_law_480 : decode bLA_law 480 = .ok (.iaload, 1) := by decide +kernel
theorem dLA_law_481 : decode bLA_law 481 = .ok (.aload_n 3, 1) := by decide +kernel
theorem dLA_law_482 : decode bLA_law 482 = .ok (.invokestatic 108, 3) := by decide +kernel
theorem dLA_law_485 : decode bLA_law 485 = .ok (.istore 5, 2) := by decide +kernel
theorem dLA_law_487 : decode bLA_law 487 = .ok (.aload_n 2, 1) := by decide +kernel
theorem dLA_law_488 : decode bLA_law 488 = .ok (.aload_n 0, 1) := by decide +kernel
theorem dLA_law_489 : decode bLA_law 489 = .ok (.iload 4, 2) := by decide +kernel
theorem dLA_law_491 : decode bLA_law 491 = .ok (.iconst 1, 1) := by decide +kernel
theorem dLA_law_492 : decode bLA_law 492 = .ok (.iadd, 1) := by decide +kernel
theorem dLA_law_493 : decode bLA_law 493 = .ok (.iaload, 1) := by decide +kernel
theorem dLA_law_494 : decode bLA_law 494 = .ok (.aload_n 0, 1) := by decide +kernel
theorem dLA_law_495 : decode bLA_law 495 = .ok (.iload 4, 2) := by decide +kernel
theorem dLA_law_497 : decode bLA_law 497 = .ok (.iconst 2, 1) := by decide +kernel
theorem dLA_law_498 : decode bLA_law 498 = .ok (.iadd, 1) := by decide +kernel
theorem dLA_law_499 : decode bLA_law 499 = .ok (.iaload, 1) := by decide +kernel
theorem dLA_law_500 : decode bLA_law 500 = .ok (.invokevirtual 110, 3) := by decide +kernel
theorem dLA_law_503 : decode bLA_law 503 = .ok (.istore 6, 2) := by decide +kernel
theorem dLA_law_505 : decode bLA_law 505 = .ok (.goto 372, 3) := by decide +kernel
theorem dLA_law_508 : decode bLA_law 508 = .ok (.aload_n 1, 1) := by decide +kernel
theorem dLA_law_509 : decode bLA_law 509 = .ok (.aload_n 0, 1) := by decide +kernel
theorem dLA_law_510 : decode bLA_law 510 = .ok (.iload 4, 2) := by decide +kernel
theorem dLA_law_512 : decode bLA_law 512 = .ok (.iconst 1, 1) := by decide +kernel
theorem dLA_law_513 : decode bLA_law 513 = .ok (.iadd, 1) := by decide +kernel
theorem dLA_law_514 : decode bLA_law 514 = .ok (.iaload, 1) := by decide +kernel
theorem dLA_law_515 : decode bLA_law 515 = .ok (.aload_n 3, 1) := by decide +kernel
theorem dLA_law_516 : decode bLA_law 516 = .ok (.invokestatic 111, 3) := by decide +kernel
theorem dLA_law_519 : decode bLA_law 519 = .ok (.istore 5, 2) := by decide +kernel
theorem dLA_law_521 : decode bLA_law 521 = .ok (.aload_n 2, 1) := by decide +kernel
theorem dLA_law_522 : decode bLA_law 522 = .ok (.aload_n 0, 1) := by decide +kernel
theorem dLA_law_523 : decode bLA_law 523 = .ok (.iload 4, 2) := by decide +kernel
theorem dLA_law_525 : decode bLA_law 525 = .ok (.iconst 1, 1) := by decide +kernel
theorem dLA_law_526 : decode bLA_law 526 = .ok (.iadd, 1) := by decide +kernel
theorem dLA_law_527 : decode bLA_law 527 = .ok (.iaload, 1) := by decide +kernel
theorem dLA_law_528 : decode bLA_law 528 = .ok (.invokevirtual 113, 3) := by decide +kernel
theorem dLA_law_531 : decode bLA_law 531 = .ok (.istore 6, 2) := by decide +kernel
theorem dLA_law_533 : decode bLA_law 533 = .ok (.goto 344, 3) := by decide +kernel
theorem dLA_law_536 : decode bLA_law 536 = .ok (.aload_n 1, 1) := by decide +kernel
theorem dLA_law_537 : decode bLA_law 537 = .ok (.aload_n 0, 1) := by decide +kernel
theorem dLA_law_538 : decode bLA_law 538 = .ok (.iload 4, 2) := by decide +kernel
theorem dLA_law_540 : decode bLA_law 540 = .ok (.iconst 1, 1) := by decide +kernel
theorem dLA_law_541 : decode bLA_law 541 = .ok (.iadd, 1) := by decide +kernel
theorem dLA_law_542 : decode bLA_law 542 = .ok (.iaload, 1) := by decide +kernel
theorem dLA_law_543 : decode bLA_law 543 = .ok (.aload_n 0, 1) := by decide +kernel
theorem dLA_law_544 : decode bLA_law 544 = .ok (.iload 4, 2) := by decide +kernel
theorem dLA_law_546 : decode bLA_law 546 = .ok (.iconst 2, 1) := by decide +kernel
theorem dLA_law_547 : decode bLA_law 547 = .ok (.iadd, 1) := by decide +kernel
theorem dLA_law_548 : decode bLA_law 548 = .ok (.iaload, 1) := by decide +kernel
theorem dLA_law_549 : decode bLA_law 549 = .ok (.aload_n 3, 1) := by decide +kernel
theorem dLA_law_550 : decode bLA_law 550 = .ok (.invokestatic 114, 3) := by decide +kernel
theorem dLA_law_553 : decode bLA_law 553 = .ok (.istore 5, 2) := by decide +kernel
theorem dLA_law_555 : decode bLA_law 555 = .ok (.aload_n 2, 1) := by decide +kernel
theorem dLA_law_556 : decode bLA_law 556 = .ok (.aload_n 0, 1) := by decide +kernel
theorem dLA_law_557 : decode bLA_law 557 = .ok (.iload 4, 2) := by decide +kernel
theorem dLA_law_559 : decode bLA_law 559 = .ok (.iconst 1, 1) := by decide +kernel
theorem dLA_law_560 : decode bLA_law 560 = .ok (.iadd, 1) := by decide +kernel
theorem dLA_law_561 : decode bLA_law 561 = .ok (.iaload, 1) := by decide +kernel
theorem dLA_law_562 : decode bLA_law 562 = .ok (.aload_n 0, 1) := by decide +kernel
theorem dLA_law_563 : decode bLA_law 563 = .ok (.iload 4, 2) := by decide +kernel
theorem dLA_law_565 : decode bLA_law 565 = .ok (.iconst 2, 1) := by decide +kernel
theorem dLA_law_566 : decode bLA_law 566 = .ok (.iadd, 1) := by decide +kernel
theorem dLA_law_567 : decode bLA_law 567 = .ok (.iaload, 1) := by decide +kernel
theorem dLA_law_568 : decode bLA_law 568 = .ok (.invokevirtual 116, 3) := by decide +kernel
theorem dLA_law_571 : decode bLA_law 571 = .ok (.istore 6, 2) := by decide +kernel
theorem dLA_law_573 : decode bLA_law 573 = .ok (.goto 304, 3) := by decide +kernel
theorem dLA_law_576 : decode bLA_law 576 = .ok (.aload_n 1, 1) := by decide +kernel
theorem dLA_law_577 : decode bLA_law 577 = .ok (.aload_n 0, 1) := by decide +kernel
theorem dLA_law_578 : decode bLA_law 578 = .ok (.iload 4, 2) := by decide +kernel
theorem dLA_law_580 : decode bLA_law 580 = .ok (.iconst 1, 1) := by decide +kernel
theorem dLA_law_581 : decode bLA_law 581 = .ok (.iadd, 1) := by decide +kernel
theorem dLA_law_582 : decode bLA_law 582 = .ok (.iaload, 1) := by decide +kernel
theorem dLA_law_583 : decode bLA_law 583 = .ok (.aload_n 0, 1) := by decide +kernel
theorem dLA_law_584 : decode bLA_law 584 = .ok (.iload 4, 2) := by decide +kernel
theorem dLA_law_586 : decode bLA_law 586 = .ok (.iconst 2, 1) := by decide +kernel
theorem dLA_law_587 : decode bLA_law 587 = .ok (.iadd, 1) := by decide +kernel
theorem dLA_law_588 : decode bLA_law 588 = .ok (.iaload, 1) := by decide +kernel
theorem dLA_law_589 : decode bLA_law 589 = .ok (.aload_n 0, 1) := by decide +kernel
theorem dLA_law_590 : decode bLA_law 590 = .ok (.iload 4, 2) := by decide +kernel
theorem dLA_law_592 : decode bLA_law 592 = .ok (.iconst 3, 1) := by decide +kernel
theorem dLA_law_593 : decode bLA_law 593 = .ok (.iadd, 1) := by decide +kernel
theorem dLA_law_594 : decode bLA_law 594 = .ok (.iaload, 1) := by decide +kernel
theorem dLA_law_595 : decode bLA_law 595 = .ok (.aload_n 3, 1) := by decide +kernel
theorem dLA_law_596 : decode bLA_law 596 = .ok (.invokestatic 117, 3) := by decide +kernel
theorem dLA_law_599 : decode bLA_law 599 = .ok (.istore 5, 2) := by decide +kernel
theorem dLA_law_601 : decode bLA_law 601 = .ok (.aload_n 2, 1) := by decide +kernel
theorem dLA_law_602 : decode bLA_law 602 = .ok (.aload_n 0, 1) := by decide +kernel
theorem dLA_law_603 : decode bLA_law 603 = .ok (.iload 4, 2) := by decide +kernel
theorem dLA_law_605 : decode bLA_law 605 = .ok (.iconst 1, 1) := by decide +kernel
theorem dLA_law_606 : decode bLA_law 606 = .ok (.iadd, 1) := by decide +kernel
theorem dLA_law_607 : decode bLA_law 607 = .ok (.iaload, 1) := by decide +kernel
theorem dLA_law_608 : decode bLA_law 608 = .ok (.aload_n 0, 1) := by decide +kernel
theorem dLA_law_609 : decode bLA_law 609 = .ok (.iload 4, 2) := by decide +kernel
theorem dLA_law_611 : decode bLA_law 611 = .ok (.iconst 2, 1) := by decide +kernel
theorem dLA_law_612 : decode bLA_law 612 = .ok (.iadd, 1) := by decide +kernel
theorem dLA_law_613 : decode bLA_law 613 = .ok (.iaload, 1) := by decide +kernel
theorem dLA_law_614 : decode bLA_law 614 = .ok (.aload_n 0, 1) := by decide +kernel
theorem dLA_law_615 : decode bLA_law 615 = .ok (.iload 4, 2) := by decide +kernel
theorem dLA_law_617 : decode bLA_law 617 = .ok (.iconst 3, 1) := by decide +kernel
theorem dLA_law_618 : decode bLA_law 618 = .ok (.iadd, 1) := by decide +kernel
theorem dLA_law_619 : decode bLA_law 619 = .ok (.iaload, 1) := by decide +kernel
theorem dLA_law_620 : decode bLA_law 620 = .ok (.invokevirtual 119, 3) := by decide +kernel
theorem dLA_law_623 : decode bLA_law 623 = .ok (.istore 6, 2) := by decide +kernel
theorem dLA_law_625 : decode bLA_law 625 = .ok (.goto 252, 3) := by decide +kernel
theorem dLA_law_628 : decode bLA_law 628 = .ok (.aload_n 1, 1) := by decide +kernel
theorem dLA_law_629 : decode bLA_law 629 = .ok (.invokevirtual 120, 3) := by decide +kernel
theorem dLA_law_632 : decode bLA_law 632 = .ok (.pop, 1) := by decide +kernel
theorem dLA_law_633 : decode bLA_law 633 = .ok (.aload_n 2, 1) := by decide +kernel
theorem dLA_law_634 : decode bLA_law 634 = .ok (.invokevirtual 123, 3) := by decide +kernel
theorem dLA_law_637 : decode bLA_law 637 = .ok (.pop, 1) := by decide +kernel
theorem dLA_law_638 : decode bLA_law 638 = .ok (.goto 239, 3) := by decide +kernel
theorem dLA_law_641 : decode bLA_law 641 = .ok (.aload_n 1, 1) := by decide +kernel
theorem dLA_law_642 : decode bLA_law 642 = .ok (.aload_n 0, 1) := by decide +kernel
theorem dLA_law_643 : decode bLA_law 643 = .ok (.iload 4, 2) := by decide +kernel
theorem dLA_law_645 : decode bLA_law 645 = .ok (.iconst 1, 1) := by decide +kernel
theorem dLA_law_646 : decode bLA_law 646 = .ok (.iadd, 1) := by decide +kernel
theorem dLA_law_647 : decode bLA_law 647 = .ok (.iaload, 1) := by decide +kernel
theorem dLA_law_648 : decode bLA_law 648 = .ok (.aload_n 0, 1) := by decide +kernel
theorem dLA_law_649 : decode bLA_law 649 = .ok (.iload 4, 2) := by decide +kernel
theorem dLA_law_651 : decode bLA_law 651 = .ok (.iconst 2, 1) := by decide +kernel
theorem dLA_law_652 : decode bLA_law 652 = .ok (.iadd, 1) := by decide +kernel
theorem dLA_law_653 : decode bLA_law 653 = .ok (.iaload, 1) := by decide +kernel
theorem dLA_law_654 : decode bLA_law 654 = .ok (.aload_n 3, 1) := by decide +kernel
theorem dLA_law_655 : decode bLA_law 655 = .ok (.invokestatic 124, 3) := by decide +kernel
theorem dLA_law_658 : decode bLA_law 658 = .ok (.istore 5, 2) := by decide +kernel
theorem dLA_law_660 : decode bLA_law 660 = .ok (.aload_n 2, 1) := by decide +kernel
theorem dLA_law_661 : decode bLA_law 661 = .ok (.aload_n 0, 1) := by decide +kernel
theorem dLA_law_662 : decode bLA_law 662 = .ok (.iload 4, 2) := by decide +kernel
theorem dLA_law_664 : decode bLA_law 664 = .ok (.iconst 1, 1) := by decide +kernel
theorem dLA_law_665 : decode bLA_law 665 = .ok (.iadd, 1) := by decide +kernel
theorem dLA_law_666 : decode bLA_law 666 = .ok (.iaload, 1) := by decide +kernel
theorem dLA_law_667 : decode bLA_law 667 = .ok (.aload_n 0, 1) := by decide +kernel
theorem dLA_law_668 : decode bLA_law 668 = .ok (.iload 4, 2) := by decide +kernel
theorem dLA_law_670 : decode bLA_law 670 = .ok (.iconst 2, 1) := by decide +kernel
theorem dLA_law_671 : decode bLA_law 671 = .ok (.iadd, 1) := by decide +kernel
theorem dLA_law_672 : decode bLA_law 672 = .ok (.iaload, 1) := by decide +kernel
theorem dLA_law_673 : decode bLA_law 673 = .ok (.invokevirtual 126, 3) := by decide +kernel
theorem dLA_law_676 : decode bLA_law 676 = .ok (.istore 6, 2) := by decide +kernel
theorem dLA_law_678 : decode bLA_law 678 = .ok (.goto 199, 3) := by decide +kernel
theorem dLA_law_681 : decode bLA_law 681 = .ok (.aload_n 1, 1) := by decide +kernel
theorem dLA_law_682 : decode bLA_law 682 = .ok (.aload_n 0, 1) := by decide +kernel
theorem dLA_law_683 : decode bLA_law 683 = .ok (.iload 4, 2) := by decide +kernel
theorem dLA_law_685 : decode bLA_law 685 = .ok (.iconst 1, 1) := by decide +kernel
theorem dLA_law_686 : decode bLA_law 686 = .ok (.iadd, 1) := by decide +kernel
theorem dLA_law_687 : decode bLA_law 687 = .ok (.iaload, 1) := by decide +kernel
theorem dLA_law_688 : decode bLA_law 688 = .ok (.aload_n 0, 1) := by decide +kernel
theorem dLA_law_689 : decode bLA_law 689 = .ok (.iload 4, 2) := by decide +kernel
theorem dLA_law_691 : decode bLA_law 691 = .ok (.iconst 2, 1) := by decide +kernel
theorem dLA_law_692 : decode bLA_law 692 = .ok (.iadd, 1) := by decide +kernel
theorem dLA_law_693 : decode bLA_law 693 = .ok (.iaload, 1) := by decide +kernel
theorem dLA_law_694 : decode bLA_law 694 = .ok (.aload_n 0, 1) := by decide +kernel
theorem dLA_law_695 : decode bLA_law 695 = .ok (.iload 4, 2) := by decide +kernel
theorem dLA_law_697 : decode bLA_law 697 = .ok (.iconst 3, 1) := by decide +kernel
theorem dLA_law_698 : decode bLA_law 698 = .ok (.iadd, 1) := by decide +kernel
theorem dLA_law_699 : decode bLA_law 699 = .ok (.iaload, 1) := by decide +kernel
theorem dLA_law_700 : decode bLA_law 700 = .ok (.aload_n 3, 1) := by decide +kernel
theorem dLA_law_701 : decode bLA_law 701 = .ok (.invokestatic 127, 3) := by decide +kernel
theorem dLA_law_704 : decode bLA_law 704 = .ok (.istore 5, 2) := by decide +kernel
theorem dLA_law_706 : decode bLA_law 706 = .ok (.aload_n 2, 1) := by decide +kernel
theorem dLA_law_707 : decode bLA_law 707 = .ok (.aload_n 0, 1) := by decide +kernel
theorem dLA_law_708 : decode bLA_law 708 = .ok (.iload 4, 2) := by decide +kernel
theorem dLA_law_710 : decode bLA_law 710 = .ok (.iconst 1, 1) := by decide +kernel
theorem dLA_law_711 : decode bLA_law 711 = .ok (.iadd, 1) := by decide +kernel
theorem dLA_law_712 : decode bLA_law 712 = .ok (.iaload, 1) := by decide +kernel
theorem dLA_law_713 : decode bLA_law 713 = .ok (.aload_n 0, 1) := by decide +kernel
theorem dLA_law_714 : decode bLA_law 714 = .ok (.iload 4, 2) := by decide +kernel
theorem dLA_law_716 : decode bLA_law 716 = .ok (.iconst 2, 1) := by decide +kernel
theorem dLA_law_717 : decode bLA_law 717 = .ok (.iadd, 1) := by decide +kernel
theorem dLA_law_718 : decode bLA_law 718 = .ok (.iaload, 1) := by decide +kernel
theorem dLA_law_719 : decode bLA_law 719 = .ok (.aload_n 0, 1) := by decide +kernel
theorem dLA_law_720 : decode bLA_law 720 = .ok (.iload 4, 2) := by decide +kernel
theorem dLA_law_722 : decode bLA_law 722 = .ok (.iconst 3, 1) := by decide +kernel
theorem dLA_law_723 : decode bLA_law 723 = .ok (.iadd, 1) := by decide +kernel
theorem dLA_law_724 : decode bLA_law 724 = .ok (.iaload, 1) := by decide +kernel
theorem dLA_law_725 : decode bLA_law 725 = .ok (.invokevirtual 129, 3) := by decide +kernel
theorem dLA_law_728 : decode bLA_law 728 = .ok (.istore 6, 2) := by decide +kernel
theorem dLA_law_730 : decode bLA_law 730 = .ok (.goto 147, 3) := by decide +kernel
set_option maxHeartbeats 4000000 in
set_option maxRecDepth 100000 in
theorem law_7 {p : Program} {e : Env} {s : State} {m : MethodId} {below : List Frame} {meth : Method} {c : Code} (l : Launch) (hfl : l.flags = Jvm.pinnedFlags ++ [Jvm.noTraceFlag]) {sb L : Nat} {xs : Nat → Int32} (C0 : zAt p s m meth c sb L xs) (dC : Nat → ClassId) (dI : Nat → Nat → Nat) (cI cZ cJ cA : ClassId) (hK : va_K (dC, dI) zCl (zTZ cI cZ cJ cA) s) {o mo mb : Nat → Nat} {qo : Nat} {k cs ss : Nat} (hL : L ≤ 2048) (hcs : cs + 1 ≤ 601024) (hss : ss + 6 ≤ 7293034) (hk : 4 * k + 4 ≤ L) (NX : zGo p l e s m below meth c dC dI cI cZ cJ cA sb qo o mo mb (k + 1) (nI (4 * k)) 877 (cs + 1) (ss + 6)) : zGo p l e s m below meth c dC dI cI cZ cJ cA sb qo o mo mb (k) (nI (4 * k)) 400 (cs) (ss) := by
  intro H locs ls b P S P' S' f hR hP hD hS hl
  have C1 := C0
  obtain ⟨hx, hb, hr, hml, hown, hB, hX, hbl, hlocks⟩ := C0
  have hA0 : ∀ q, zN s.heap.size q → s.heap.size ≤ q := fun _ h => h
  have hAD := hA0
  have hA : ∀ q : Nat, s.heap.size ≤ q → zN s.heap.size q := fun _ h => h
  have hbA : ¬ zN s.heap.size sb := Nat.not_le.mpr hbl
  obtain ⟨hI, gS, gS', hT⟩ := hR
  have gP := hI.1
  have gP' := hI.2.1
  refine lv_aload_n hx hb dLA_law_400 rfl (lv_at hl 3 rfl) ?_
  refine lv_aload_n hx hb dLA_law_401 rfl (lv_at hl 4 rfl) ?_
  refine lv_iload hx hb dLA_law_402 (lv_at hl 0 rfl) ?_
  refine lv_iconst (v := 1) hx hb dLA_law_404 (by decide) ?_
  refine lv_iadd hx hb dLA_law_405 ?_
  refine lv_topi (fun k1 ek1 => ?_)
  have ek1 : k1 = nI ((4 * k) + 1) := ek1.trans (nI_add (4 * k) 1)
  subst ek1
  refine va_sld hx hb hX hbl hbA hS (i := nI ((4 * k) + 1)) (vp_in_nI (by omega) (by omega)) dLA_law_406 ?_
  refine lv_aload_n hx hb dLA_law_407 rfl (lv_at hl 4 rfl) ?_
  refine lv_iload hx hb dLA_law_408 (lv_at hl 0 rfl) ?_
  refine lv_iconst (v := 2) hx hb dLA_law_410 (by decide) ?_
  refine lv_iadd hx hb dLA_law_411 ?_
  refine lv_topi (fun k2 ek2 => ?_)
  have ek2 : k2 = nI ((4 * k) + 2) := ek2.trans (nI_add (4 * k) 2)
  subst ek2
  refine va_sld hx hb hX hbl hbA hS (i := nI ((4 * k) + 2)) (vp_in_nI (by omega) (by omega)) dLA_law_412 ?_
  refine lv_aload_n hx hb dLA_law_413 rfl (lv_at hl 4 rfl) ?_
  refine lv_iload hx hb dLA_law_414 (lv_at hl 0 rfl) ?_
  refine lv_iconst (v := 3) hx hb dLA_law_416 (by decide) ?_
  refine lv_iadd hx hb dLA_law_417 ?_
  refine lv_topi (fun k3 ek3 => ?_)
  have ek3 : k3 = nI ((4 * k) + 3) := ek3.trans (nI_add (4 * k) 3)
  subst ek3
  refine va_sld hx hb hX hbl hbA hS (i := nI ((4 * k) + 3)) (vp_in_nI (by omega) (by omega)) dLA_law_418 ?_
  refine lv_if_eq (tgt := 426) hx hb dLA_law_419 (by decide) (fun c_419 => ?_) (fun c_419 => ?_)
  · refine lv_iconst (v := 0) hx hb dLA_law_426 (by decide) ?_
    refine lv_aload_n hx hb dLA_law_427 rfl (lv_at hl 1 rfl) ?_
    have hcw : ∀ w ∈ [Cond.codeWith yLA_order bLA_order 6 (some .int) [(0, 19, 22, 19), (0, 19, 26, 13)]], w.before ([.ref sb] : List Value).toArray s = true := fun w h => by rw [List.mem_singleton.mp h]; exact hB.word (zm3 k3_119) rfl
    refine zcIL (tq_runSW (n := 5) (As := [.ref (o 0), .int (xs (nI ((4 * k) + 1)).toNatClampNeg), .int (xs (nI ((4 * k) + 2)).toNatClampNeg), .int 0, .ref qo]) (rest := []) ⟨hx, hb, hml, hown, hcw⟩ (tLA_order l dC dI cI cZ cJ cA #[Value.ref sb] s o b hfl P S f qo H.size (xs (nI ((4 * k) + 1)).toNatClampNeg) (xs (nI ((4 * k) + 2)).toNatClampNeg) 0 gP gS (hI.2.2.2.2.2.2.imp And.left And.right) (by decide)) zgoodW rfl rfl rfl ⟨Nat.le_of_ble_eq_true rfl, Nat.le_of_ble_eq_true rfl⟩ (hB.word (zm3 k3_118) rfl) (hB.word (zm1 k1_0) rfl) (hB.word (zm3 k3_117) rfl) (by decide +kernel) ⟨zP_blind, zP_pre (zPL hP) hK (zDL hD) hAD (zB_on hB hA0 hS)⟩ rfl rfl hl.1 rfl (lv_room (Nat.le_of_ble_eq_true rfl)) dLA_law_428 ⟨hcs, hss⟩) hP hD hS hA (fun r4 x9 H locs hr4 hP hD hS => ?_)
    obtain ⟨P5, S6, f7⟩ := x9
    have hP : va_P (dC, dI) zCl ((CW cI cZ cA o b P5 S6 ++ [(qo, .inl (cJ, 1, .inr (.inl f7)))]) ++ MW cI cZ cA mo mb P' S') H := hP
    have hD : va_D (zN s.heap.size) ((CW cI cZ cA o b P5 S6 ++ [(qo, .inl (cJ, 1, .inr (.inl f7)))]) ++ MW cI cZ cA mo mb P' S') := hD
    have gPr4 := hr4.2.1
    have gSr4 := hr4.2.2
    have ePr4 : P5 = P := zH_order_P hr4.1
    rw [ePr4] at hP hD
    refine lv_istore (lv' := [(5, .int r4), (4, .int (nI (4 * k))), (3, .ref qo), (2, .ref (mo 0)), (1, .ref (o 0)), (0, .ref sb)]) hx hb dLA_law_431 hl (by decide) rfl (fun ls hl => ?_)
    refine lv_aload_n hx hb dLA_law_433 rfl (lv_at hl 3 rfl) ?_
    refine lv_aload_n hx hb dLA_law_434 rfl (lv_at hl 5 rfl) ?_
    refine lv_iload hx hb dLA_law_435 (lv_at hl 1 rfl) ?_
    refine lv_iconst (v := 1) hx hb dLA_law_437 (by decide) ?_
    refine lv_iadd hx hb dLA_law_438 ?_
    refine lv_topi (fun k9 ek9 => ?_)
    have ek9 : k9 = nI ((4 * k) + 1) := ek9.trans (nI_add (4 * k) 1)
    subst ek9
    refine va_sld hx hb hX hbl hbA hS (i := nI ((4 * k) + 1)) (vp_in_nI (by omega) (by omega)) dLA_law_439 ?_
    refine lv_aload_n hx hb dLA_law_440 rfl (lv_at hl 5 rfl) ?_
    refine lv_iload hx hb dLA_law_441 (lv_at hl 1 rfl) ?_
    refine lv_iconst (v := 2) hx hb dLA_law_443 (by decide) ?_
    refine lv_iadd hx hb dLA_law_444 ?_
    refine lv_topi (fun k10 ek10 => ?_)
    have ek10 : k10 = nI ((4 * k) + 2) := ek10.trans (nI_add (4 * k) 2)
    subst ek10
    refine va_sld hx hb hX hbl hbA hS (i := nI ((4 * k) + 2)) (vp_in_nI (by omega) (by omega)) dLA_law_445 ?_
    refine lv_aload_n hx hb dLA_law_446 rfl (lv_at hl 5 rfl) ?_
    refine lv_iload hx hb dLA_law_447 (lv_at hl 1 rfl) ?_
    refine lv_iconst (v := 3) hx hb dLA_law_449 (by decide) ?_
    refine lv_iadd hx hb dLA_law_450 ?_
    refine lv_topi (fun k11 ek11 => ?_)
    have ek11 : k11 = nI ((4 * k) + 3) := ek11.trans (nI_add (4 * k) 3)
    subst ek11
    refine va_sld hx hb hX hbl hbA hS (i := nI ((4 * k) + 3)) (vp_in_nI (by omega) (by omega)) dLA_law_451 ?_
    refine lv_if_eq (tgt := 459) hx hb dLA_law_452 (by decide) (fun _ => ?_) (fun c9 => absurd c_419 c9)
    refine lv_iconst (v := 0) hx hb dLA_law_459 (by decide) ?_
    have hP := zPC hP
    have hD := zDC hD
    have hPc := zPL hP
    have hDc := zDL hD
    refine zcIL (va_runV (As := [.int (xs (nI ((4 * k) + 1)).toNatClampNeg), .int (xs (nI ((4 * k) + 2)).toNatClampNeg), .int 0]) (rest := []) ⟨hx, hb, hml, hown, zno⟩ (tMO_order l dC dI cI cZ cJ cA #[Value.ref sb] s mo mb P' S' H.size (xs (nI ((4 * k) + 1)).toNatClampNeg) (xs (nI ((4 * k) + 2)).toNatClampNeg) 0 gP' gS' (by decide)) (zcw 3 (hB.word (zm5 k5_175) rfl) (hB.word (zm1 k1_9) rfl) (hB.word (zm5 k5_172) rfl) (hB.word (zm5 k5_173) rfl) (hB.word (zm5 k5_174) rfl) rfl rfl (by decide +kernel) ⟨Nat.le_of_ble_eq_true rfl, Nat.le_of_ble_eq_true rfl⟩) ⟨zP_blind, va_recv hK hPc (ci := 7) (q0 := 0) rfl rfl, zP_pre hPc hK hDc hAD (zB_on hB hA0 hS)⟩ rfl rfl hl.1 rfl (lv_room (Nat.le_of_ble_eq_true rfl)) dLA_law_460 ⟨hcs, hss⟩) hP hD hS hA (fun r12 x9 H locs hr12 hP hD hS => ?_)
    generalize x9 = S14 at hr12 hP hD
    have gSr12 := hr12.2.1
    have hP := zPC hP
    have hD := zDC hD
    have hP : va_P (dC, dI) zCl ((CW cI cZ cA o b P S6 ++ [(qo, .inl (cJ, 1, .inr (.inl f7)))]) ++ MW cI cZ cA mo mb P' S14) H := hP
    have hD : va_D (zN s.heap.size) ((CW cI cZ cA o b P S6 ++ [(qo, .inl (cJ, 1, .inr (.inl f7)))]) ++ MW cI cZ cA mo mb P' S14) := hD
    have hZ := zs_order hI hT (by omega) hr4.1 hr12.1
    have hTr12 : zXr (k + 1) P S6 P' S14 := hZ.2
    refine lv_istore (lv' := [(6, .int r12), (5, .int r4), (4, .int (nI (4 * k))), (3, .ref qo), (2, .ref (mo 0)), (1, .ref (o 0)), (0, .ref sb)]) hx hb dLA_law_463 hl (by decide) rfl (fun ls hl => ?_)
    refine lv_goto (tgt := 877) hx hb dLA_law_465 (by decide) ?_
    exact NX H locs ls b P S6 P' S14 f7 ⟨hI, gSr4, gSr12, hTr12⟩ hP hD hS (lv_sub hl [2, 3, 4, 5, 6] rfl)
  · refine lv_iconst (v := 1) hx hb dLA_law_422 (by decide) ?_
    refine lv_goto (tgt := 427) hx hb dLA_law_423 (by decide) ?_
    refine lv_aload_n hx hb dLA_law_427 rfl (lv_at hl 1 rfl) ?_
    have hcw : ∀ w ∈ [Cond.codeWith yLA_order bLA_order 6 (some .int) [(0, 19, 22, 19), (0, 19, 26, 13)]], w.before ([.ref sb] : List Value).toArray s = true := fun w h => by rw [List.mem_singleton.mp h]; exact hB.word (zm3 k3_119) rfl
    refine zcIL (tq_runSW (n := 5) (As := [.ref (o 0), .int (xs (nI ((4 * k) + 1)).toNatClampNeg), .int (xs (nI ((4 * k) + 2)).toNatClampNeg), .int 1, .ref qo]) (rest := []) ⟨hx, hb, hml, hown, hcw⟩ (tLA_order l dC dI cI cZ cJ cA #[Value.ref sb] s o b hfl P S f qo H.size (xs (nI ((4 * k) + 1)).toNatClampNeg) (xs (nI ((4 * k) + 2)).toNatClampNeg) 1 gP gS (hI.2.2.2.2.2.2.imp And.left And.right) (by decide)) zgoodW rfl rfl rfl ⟨Nat.le_of_ble_eq_true rfl, Nat.le_of_ble_eq_true rfl⟩ (hB.word (zm3 k3_118) rfl) (hB.word (zm1 k1_0) rfl) (hB.word (zm3 k3_117) rfl) (by decide +kernel) ⟨zP_blind, zP_pre (zPL hP) hK (zDL hD) hAD (zB_on hB hA0 hS)⟩ rfl rfl hl.1 rfl (lv_room (Nat.le_of_ble_eq_true rfl)) dLA_law_428 ⟨hcs, hss⟩) hP hD hS hA (fun r15 x9 H locs hr15 hP hD hS => ?_)
    obtain ⟨P16, S17, f18⟩ := x9
    have hP : va_P (dC, dI) zCl ((CW cI cZ cA o b P16 S17 ++ [(qo, .inl (cJ, 1, .inr (.inl f18)))]) ++ MW cI cZ cA mo mb P' S') H := hP
    have hD : va_D (zN s.heap.size) ((CW cI cZ cA o b P16 S17 ++ [(qo, .inl (cJ, 1, .inr (.inl f18)))]) ++ MW cI cZ cA mo mb P' S') := hD
    have gPr15 := hr15.2.1
    have gSr15 := hr15.2.2
    have ePr15 : P16 = P := zH_order_P hr15.1
    rw [ePr15] at hP hD
    refine lv_istore (lv' := [(5, .int r15), (4, .int (nI (4 * k))), (3, .ref qo), (2, .ref (mo 0)), (1, .ref (o 0)), (0, .ref sb)]) hx hb dLA_law_431 hl (by decide) rfl (fun ls hl => ?_)
    refine lv_aload_n hx hb dLA_law_433 rfl (lv_at hl 3 rfl) ?_
    refine lv_aload_n hx hb dLA_law_434 rfl (lv_at hl 5 rfl) ?_
    refine lv_iload hx hb dLA_law_435 (lv_at hl 1 rfl) ?_
    refine lv_iconst (v := 1) hx hb dLA_law_437 (by decide) ?_
    refine lv_iadd hx hb dLA_law_438 ?_
    refine lv_topi (fun k20 ek20 => ?_)
    have ek20 : k20 = nI ((4 * k) + 1) := ek20.trans (nI_add (4 * k) 1)
    subst ek20
    refine va_sld hx hb hX hbl hbA hS (i := nI ((4 * k) + 1)) (vp_in_nI (by omega) (by omega)) dLA_law_439 ?_
    refine lv_aload_n hx hb dLA_law_440 rfl (lv_at hl 5 rfl) ?_
    refine lv_iload hx hb dLA_law_441 (lv_at hl 1 rfl) ?_
    refine lv_iconst (v := 2) hx hb dLA_law_443 (by decide) ?_
    refine lv_iadd hx hb dLA_law_444 ?_
    refine lv_topi (fun k21 ek21 => ?_)
    have ek21 : k21 = nI ((4 * k) + 2) := ek21.trans (nI_add (4 * k) 2)
    subst ek21
    refine va_sld hx hb hX hbl hbA hS (i := nI ((4 * k) + 2)) (vp_in_nI (by omega) (by omega)) dLA_law_445 ?_
    refine lv_aload_n hx hb dLA_law_446 rfl (lv_at hl 5 rfl) ?_
    refine lv_iload hx hb dLA_law_447 (lv_at hl 1 rfl) ?_
    refine lv_iconst (v := 3) hx hb dLA_law_449 (by decide) ?_
    refine lv_iadd hx hb dLA_law_450 ?_
    refine lv_topi (fun k22 ek22 => ?_)
    have ek22 : k22 = nI ((4 * k) + 3) := ek22.trans (nI_add (4 * k) 3)
    subst ek22
    refine va_sld hx hb hX hbl hbA hS (i := nI ((4 * k) + 3)) (vp_in_nI (by omega) (by omega)) dLA_law_451 ?_
    refine lv_if_eq (tgt := 459) hx hb dLA_law_452 (by decide) (fun c9 => absurd c9 c_419) (fun _ => ?_)
    refine lv_iconst (v := 1) hx hb dLA_law_455 (by decide) ?_
    refine lv_goto (tgt := 460) hx hb dLA_law_456 (by decide) ?_
    have hP := zPC hP
    have hD := zDC hD
    have hPc := zPL hP
    have hDc := zDL hD
    refine zcIL (va_runV (As := [.int (xs (nI ((4 * k) + 1)).toNatClampNeg), .int (xs (nI ((4 * k) + 2)).toNatClampNeg), .int 1]) (rest := []) ⟨hx, hb, hml, hown, zno⟩ (tMO_order l dC dI cI cZ cJ cA #[Value.ref sb] s mo mb P' S' H.size (xs (nI ((4 * k) + 1)).toNatClampNeg) (xs (nI ((4 * k) + 2)).toNatClampNeg) 1 gP' gS' (by decide)) (zcw 3 (hB.word (zm5 k5_175) rfl) (hB.word (zm1 k1_9) rfl) (hB.word (zm5 k5_172) rfl) (hB.word (zm5 k5_173) rfl) (hB.word (zm5 k5_174) rfl) rfl rfl (by decide +kernel) ⟨Nat.le_of_ble_eq_true rfl, Nat.le_of_ble_eq_true rfl⟩) ⟨zP_blind, va_recv hK hPc (ci := 7) (q0 := 0) rfl rfl, zP_pre hPc hK hDc hAD (zB_on hB hA0 hS)⟩ rfl rfl hl.1 rfl (lv_room (Nat.le_of_ble_eq_true rfl)) dLA_law_460 ⟨hcs, hss⟩) hP hD hS hA (fun r23 x9 H locs hr23 hP hD hS => ?_)
    generalize x9 = S25 at hr23 hP hD
    have gSr23 := hr23.2.1
    have hP := zPC hP
    have hD := zDC hD
    have hP : va_P (dC, dI) zCl ((CW cI cZ cA o b P S17 ++ [(qo, .inl (cJ, 1, .inr (.inl f18)))]) ++ MW cI cZ cA mo mb P' S25) H := hP
    have hD : va_D (zN s.heap.size) ((CW cI cZ cA o b P S17 ++ [(qo, .inl (cJ, 1, .inr (.inl f18)))]) ++ MW cI cZ cA mo mb P' S25) := hD
    have hZ := zs_order hI hT (by omega) hr15.1 hr23.1
    have hTr23 : zXr (k + 1) P S17 P' S25 := hZ.2
    refine lv_istore (lv' := [(6, .int r23), (5, .int r15), (4, .int (nI (4 * k))), (3, .ref qo), (2, .ref (mo 0)), (1, .ref (o 0)), (0, .ref sb)]) hx hb dLA_law_463 hl (by decide) rfl (fun ls hl => ?_)
    refine lv_goto (tgt := 877) hx hb dLA_law_465 (by decide) ?_
    exact NX H locs ls b P S17 P' S25 f18 ⟨hI, gSr15, gSr23, hTr23⟩ hP hD hS (lv_sub hl [2, 3, 4, 5, 6] rfl)
set_option maxHeartbeats 4000000 in
set_option maxRecDepth 100000 in
theorem law_8 {p : Program} {e : Env} {s : State} {m : MethodId} {below : List Frame} {meth : Method} {c : Code} (l : Launch) (hfl : l.flags = Jvm.pinnedFlags ++ [Jvm.noTraceFlag]) {sb L : Nat} {xs : Nat → Int32} (C0 : zAt p s m meth c sb L xs) (dC : Nat → ClassId) (dI : Nat → Nat → Nat) (cI cZ cJ cA : ClassId) (hK : va_K (dC, dI) zCl (zTZ cI cZ cJ cA) s) {o mo mb : Nat → Nat} {qo : Nat} {k cs ss : Nat} (hL : L ≤ 2048) (hcs : cs + 1 ≤ 601024) (hss : ss + 6 ≤ 7293034) (hk : 4 * k + 4 ≤ L) (NX : zGo p l e s m below meth c dC dI cI cZ cJ cA sb qo o mo mb (k + 1) (nI (4 * k)) 877 (cs + 1) (ss + 6)) : zGo p l e s m below meth c dC dI cI cZ cJ cA sb qo o mo mb (k) (nI (4 * k)) 468 (cs) (ss) := by
  intro H locs ls b P S P' S' f hR hP hD hS hl
  have C1 := C0
  obtain ⟨hx, hb, hr, hml, hown, hB, hX, hbl, hlocks⟩ := C0
  have hA0 : ∀ q, zN s.heap.size q → s.heap.size ≤ q := fun _ h => h
  have hAD := hA0
  have hA : ∀ q : Nat, s.heap.size ≤ q → zN s.heap.size q := fun _ h => h
  have hbA : ¬ zN s.heap.size sb := Nat.not_le.mpr hbl
  obtain ⟨hI, gS, gS', hT⟩ := hR
  have gP := hI.1
  have gP' := hI.2.1
  refine lv_aload_n hx hb dLA_law_468 rfl (lv_at hl 3 rfl) ?_
  refine lv_aload_n hx hb dLA_law_469 rfl (lv_at hl 4 rfl) ?_
  refine lv_iload hx hb dLA_law_470 (lv_at hl 0 rfl) ?_
  refine lv_iconst (v := 1) hx hb dLA_law_472 (by decide) ?_
  refine lv_iadd hx hb dLA_law_473 ?_
  refine lv_topi (fun k1 ek1 => ?_)
  have ek1 : k1 = nI ((4 * k) + 1) := ek1.trans (nI_add (4 * k) 1)
  subst ek1
  refine va_sld hx hb hX hbl hbA hS (i := nI ((4 * k) + 1)) (vp_in_nI (by omega) (by omega)) dLA_law_474 ?_
  refine lv_aload_n hx hb dLA_law_475 rfl (lv_at hl 4 rfl) ?_
  refine lv_iload hx hb dLA_law_476 (lv_at hl 0 rfl) ?_
  refine lv_iconst (v := 2) hx hb dLA_law_478 (by decide) ?_
  refine lv_iadd hx hb dLA_law_479 ?_
  refine lv_topi (fun k2 ek2 => ?_)
  have ek2 : k2 = nI ((4 * k) + 2) := ek2.trans (nI_add (4 * k) 2)
  subst ek2
  refine va_sld hx hb hX hbl hbA hS (i := nI ((4 * k) + 2)) (vp_in_nI (by omega) (by omega)) dLA_law_480 ?_
  refine lv_aload_n hx hb dLA_law_481 rfl (lv_at hl 1 rfl) ?_
  have hcw : ∀ w ∈ [Cond.codeWith yLA_clear bLA_clear 5 (some .int) [(0, 17, 20, 19), (0, 17, 24, 13)]], w.before ([.ref sb] : List Value).toArray s = true := fun w h => by rw [List.mem_singleton.mp h]; exact hB.word (zm3 k3_144) rfl
  refine zcIL (tq_runSW (n := 4) (As := [.ref (o 0), .int (xs (nI ((4 * k) + 1)).toNatClampNeg), .int (xs (nI ((4 * k) + 2)).toNatClampNeg), .ref qo]) (rest := []) ⟨hx, hb, hml, hown, hcw⟩ (tLA_clear l dC dI cI cZ cJ cA #[Value.ref sb] s o b hfl P S f qo H.size (xs (nI ((4 * k) + 1)).toNatClampNeg) (xs (nI ((4 * k) + 2)).toNatClampNeg) gP gS (hI.2.2.2.2.2.2.imp And.left And.right)) zgoodW rfl rfl rfl ⟨Nat.le_of_ble_eq_true rfl, Nat.le_of_ble_eq_true rfl⟩ (hB.word (zm3 k3_143) rfl) (hB.word (zm1 k1_0) rfl) (hB.word (zm3 k3_142) rfl) (by decide +kernel) ⟨zP_blind, zP_pre (zPL hP) hK (zDL hD) hAD (zB_on hB hA0 hS)⟩ rfl rfl hl.1 rfl (lv_room (Nat.le_of_ble_eq_true rfl)) dLA_law_482 ⟨hcs, hss⟩) hP hD hS hA (fun r3 x9 H locs hr3 hP hD hS => ?_)
  obtain ⟨P4, S5, f6⟩ := x9
  have hP : va_P (dC, dI) zCl ((CW cI cZ cA o b P4 S5 ++ [(qo, .inl (cJ, 1, .inr (.inl f6)))]) ++ MW cI cZ cA mo mb P' S') H := hP
  have hD : va_D (zN s.heap.size) ((CW cI cZ cA o b P4 S5 ++ [(qo, .inl (cJ, 1, .inr (.inl f6)))]) ++ MW cI cZ cA mo mb P' S') := hD
  have gPr3 := hr3.2.1
  have gSr3 := hr3.2.2
  have ePr3 : P4 = P := zH_clear_P hr3.1
  rw [ePr3] at hP hD
  refine lv_istore (lv' := [(5, .int r3), (4, .int (nI (4 * k))), (3, .ref qo), (2, .ref (mo 0)), (1, .ref (o 0)), (0, .ref sb)]) hx hb dLA_law_485 hl (by decide) rfl (fun ls hl => ?_)
  refine lv_aload_n hx hb dLA_law_487 rfl (lv_at hl 3 rfl) ?_
  refine lv_aload_n hx hb dLA_law_488 rfl (lv_at hl 5 rfl) ?_
  refine lv_iload hx hb dLA_law_489 (lv_at hl 1 rfl) ?_
  refine lv_iconst (v := 1) hx hb dLA_law_491 (by decide) ?_
  refine lv_iadd hx hb dLA_law_492 ?_
  refine lv_topi (fun k8 ek8 => ?_)
  have ek8 : k8 = nI ((4 * k) + 1) := ek8.trans (nI_add (4 * k) 1)
  subst ek8
  refine va_sld hx hb hX hbl hbA hS (i := nI ((4 * k) + 1)) (vp_in_nI (by omega) (by omega)) dLA_law_493 ?_
  refine lv_aload_n hx hb dLA_law_494 rfl (lv_at hl 5 rfl) ?_
  refine lv_iload hx hb dLA_law_495 (lv_at hl 1 rfl) ?_
  refine lv_iconst (v := 2) hx hb dLA_law_497 (by decide) ?_
  refine lv_iadd hx hb dLA_law_498 ?_
  refine lv_topi (fun k9 ek9 => ?_)
  have ek9 : k9 = nI ((4 * k) + 2) := ek9.trans (nI_add (4 * k) 2)
  subst ek9
  refine va_sld hx hb hX hbl hbA hS (i := nI ((4 * k) + 2)) (vp_in_nI (by omega) (by omega)) dLA_law_499 ?_
  have hP := zPC hP
  have hD := zDC hD
  have hPc := zPL hP
  have hDc := zDL hD
  refine zcIL (va_runV (As := [.int (xs (nI ((4 * k) + 1)).toNatClampNeg), .int (xs (nI ((4 * k) + 2)).toNatClampNeg)]) (rest := []) ⟨hx, hb, hml, hown, zno⟩ (tMO_clear l dC dI cI cZ cJ cA #[Value.ref sb] s mo mb P' S' H.size (xs (nI ((4 * k) + 1)).toNatClampNeg) (xs (nI ((4 * k) + 2)).toNatClampNeg) gP' gS') (zcw 2 (hB.word (zm5 k5_183) rfl) (hB.word (zm1 k1_9) rfl) (hB.word (zm5 k5_180) rfl) (hB.word (zm5 k5_181) rfl) (hB.word (zm5 k5_182) rfl) rfl rfl (by decide +kernel) ⟨Nat.le_of_ble_eq_true rfl, Nat.le_of_ble_eq_true rfl⟩) ⟨zP_blind, va_recv hK hPc (ci := 7) (q0 := 0) rfl rfl, zP_pre hPc hK hDc hAD (zB_on hB hA0 hS)⟩ rfl rfl hl.1 rfl (lv_room (Nat.le_of_ble_eq_true rfl)) dLA_law_500 ⟨hcs, hss⟩) hP hD hS hA (fun r10 x9 H locs hr10 hP hD hS => ?_)
  generalize x9 = S12 at hr10 hP hD
  have gSr10 := hr10.2.1
  have hP := zPC hP
  have hD := zDC hD
  have hP : va_P (dC, dI) zCl ((CW cI cZ cA o b P S5 ++ [(qo, .inl (cJ, 1, .inr (.inl f6)))]) ++ MW cI cZ cA mo mb P' S12) H := hP
  have hD : va_D (zN s.heap.size) ((CW cI cZ cA o b P S5 ++ [(qo, .inl (cJ, 1, .inr (.inl f6)))]) ++ MW cI cZ cA mo mb P' S12) := hD
  have hZ := zs_clear hI hT (by omega) hr3.1 hr10.1
  have hTr10 : zXr (k + 1) P S5 P' S12 := hZ.2
  refine lv_istore (lv' := [(6, .int r10), (5, .int r3), (4, .int (nI (4 * k))), (3, .ref qo), (2, .ref (mo 0)), (1, .ref (o 0)), (0, .ref sb)]) hx hb dLA_law_503 hl (by decide) rfl (fun ls hl => ?_)
  refine lv_goto (tgt := 877) hx hb dLA_law_505 (by decide) ?_
  exact NX H locs ls b P S5 P' S12 f6 ⟨hI, gSr3, gSr10, hTr10⟩ hP hD hS (lv_sub hl [2, 3, 4, 5, 6] rfl)
set_option maxHeartbeats 4000000 in
set_option maxRecDepth 100000 in
theorem law_9 {p : Program} {e : Env} {s : State} {m : MethodId} {below : List Frame} {meth : Method} {c : Code} (l : Launch) (hfl : l.flags = Jvm.pinnedFlags ++ [Jvm.noTraceFlag]) {sb L : Nat} {xs : Nat → Int32} (C0 : zAt p s m meth c sb L xs) (dC : Nat → ClassId) (dI : Nat → Nat → Nat) (cI cZ cJ cA : ClassId) (hK : va_K (dC, dI) zCl (zTZ cI cZ cJ cA) s) {o mo mb : Nat → Nat} {qo : Nat} {k cs ss : Nat} (hL : L ≤ 2048) (hcs : cs + 1 ≤ 601024) (hss : ss + 6 ≤ 7293034) (hk : 4 * k + 4 ≤ L) (NX : zGo p l e s m below meth c dC dI cI cZ cJ cA sb qo o mo mb (k + 1) (nI (4 * k)) 877 (cs + 1) (ss + 6)) : zGo p l e s m below meth c dC dI cI cZ cJ cA sb qo o mo mb (k) (nI (4 * k)) 508 (cs) (ss) := by
  intro H locs ls b P S P' S' f hR hP hD hS hl
  have C1 := C0
  obtain ⟨hx, hb, hr, hml, hown, hB, hX, hbl, hlocks⟩ := C0
  have hA0 : ∀ q, zN s.heap.size q → s.heap.size ≤ q := fun _ h => h
  have hAD := hA0
  have hA : ∀ q : Nat, s.heap.size ≤ q → zN s.heap.size q := fun _ h => h
  have hbA : ¬ zN s.heap.size sb := Nat.not_le.mpr hbl
  obtain ⟨hI, gS, gS', hT⟩ := hR
  have gP := hI.1
  have gP' := hI.2.1
  refine lv_aload_n hx hb dLA_law_508 rfl (lv_at hl 3 rfl) ?_
  refine lv_aload_n hx hb dLA_law_509 rfl (lv_at hl 4 rfl) ?_
  refine lv_iload hx hb dLA_law_510 (lv_at hl 0 rfl) ?_
  refine lv_iconst (v := 1) hx hb dLA_law_512 (by decide) ?_
  refine lv_iadd hx hb dLA_law_513 ?_
  refine lv_topi (fun k1 ek1 => ?_)
  have ek1 : k1 = nI ((4 * k) + 1) := ek1.trans (nI_add (4 * k) 1)
  subst ek1
  refine va_sld hx hb hX hbl hbA hS (i := nI ((4 * k) + 1)) (vp_in_nI (by omega) (by omega)) dLA_law_514 ?_
  refine lv_aload_n hx hb dLA_law_515 rfl (lv_at hl 1 rfl) ?_
  have hcw : ∀ w ∈ [Cond.codeWith yLA_ticks bLA_ticks 4 (some .int) [(0, 9, 12, 19), (0, 9, 15, 13)]], w.before ([.ref sb] : List Value).toArray s = true := fun w h => by rw [List.mem_singleton.mp h]; exact hB.word (zm3 k3_152) rfl
  refine zcIL (tq_runSW (n := 3) (As := [.ref (o 0), .int (xs (nI ((4 * k) + 1)).toNatClampNeg), .ref qo]) (rest := []) ⟨hx, hb, hml, hown, hcw⟩ (tLA_ticks l dC dI cI cZ cJ cA #[Value.ref sb] s o b hfl P S f qo H.size (xs (nI ((4 * k) + 1)).toNatClampNeg) gP gS (hI.2.2.2.2.2.2.imp And.left And.right)) zgoodW rfl rfl rfl ⟨Nat.le_of_ble_eq_true rfl, Nat.le_of_ble_eq_true rfl⟩ (hB.word (zm3 k3_151) rfl) (hB.word (zm1 k1_0) rfl) (hB.word (zm3 k3_150) rfl) (by decide +kernel) ⟨zP_blind, zP_pre (zPL hP) hK (zDL hD) hAD (zB_on hB hA0 hS)⟩ rfl rfl hl.1 rfl (lv_room (Nat.le_of_ble_eq_true rfl)) dLA_law_516 ⟨hcs, hss⟩) hP hD hS hA (fun r2 x9 H locs hr2 hP hD hS => ?_)
  obtain ⟨b6, P3, S4, f5⟩ := x9
  have hP : va_P (dC, dI) zCl ((CW cI cZ cA o b6 P3 S4 ++ [(qo, .inl (cJ, 1, .inr (.inl f5)))]) ++ MW cI cZ cA mo mb P' S') H := hP
  have hD : va_D (zN s.heap.size) ((CW cI cZ cA o b6 P3 S4 ++ [(qo, .inl (cJ, 1, .inr (.inl f5)))]) ++ MW cI cZ cA mo mb P' S') := hD
  have gPr2 := hr2.2.1
  have gSr2 := hr2.2.2
  have ePr2 : P3 = P := zH_ticks_P hr2.1
  rw [ePr2] at hP hD
  refine lv_istore (lv' := [(5, .int r2), (4, .int (nI (4 * k))), (3, .ref qo), (2, .ref (mo 0)), (1, .ref (o 0)), (0, .ref sb)]) hx hb dLA_law_519 hl (by decide) rfl (fun ls hl => ?_)
  refine lv_aload_n hx hb dLA_law_521 rfl (lv_at hl 3 rfl) ?_
  refine lv_aload_n hx hb dLA_law_522 rfl (lv_at hl 5 rfl) ?_
  refine lv_iload hx hb dLA_law_523 (lv_at hl 1 rfl) ?_
  refine lv_iconst (v := 1) hx hb dLA_law_525 (by decide) ?_
  refine lv_iadd hx hb dLA_law_526 ?_
  refine lv_topi (fun k7 ek7 => ?_)
  have ek7 : k7 = nI ((4 * k) + 1) := ek7.trans (nI_add (4 * k) 1)
  subst ek7
  refine va_sld hx hb hX hbl hbA hS (i := nI ((4 * k) + 1)) (vp_in_nI (by omega) (by omega)) dLA_law_527 ?_
  have hP := zPC hP
  have hD := zDC hD
  have hPc := zPL hP
  have hDc := zDL hD
  refine zcIL (va_runV (As := [.int (xs (nI ((4 * k) + 1)).toNatClampNeg)]) (rest := []) ⟨hx, hb, hml, hown, zno⟩ (tMO_ticks l dC dI cI cZ cJ cA #[Value.ref sb] s mo mb P' S' H.size (xs (nI ((4 * k) + 1)).toNatClampNeg) gP' gS' hI.M) (zcw 1 (hB.word (zm5 k5_187) rfl) (hB.word (zm1 k1_9) rfl) (hB.word (zm5 k5_184) rfl) (hB.word (zm5 k5_185) rfl) (hB.word (zm5 k5_186) rfl) rfl rfl (by decide +kernel) ⟨Nat.le_of_ble_eq_true rfl, Nat.le_of_ble_eq_true rfl⟩) ⟨zP_blind, va_recv hK hPc (ci := 7) (q0 := 0) rfl rfl, zP_pre hPc hK hDc hAD (zB_on hB hA0 hS)⟩ rfl rfl hl.1 rfl (lv_room (Nat.le_of_ble_eq_true rfl)) dLA_law_528 ⟨hcs, hss⟩) hP hD hS hA (fun r8 x9 H locs hr8 hP hD hS => ?_)
  generalize x9 = S10 at hr8 hP hD
  have gSr8 := hr8.2.1
  have hP := zPC hP
  have hD := zDC hD
  have hP : va_P (dC, dI) zCl ((CW cI cZ cA o b6 P S4 ++ [(qo, .inl (cJ, 1, .inr (.inl f5)))]) ++ MW cI cZ cA mo mb P' S10) H := hP
  have hD : va_D (zN s.heap.size) ((CW cI cZ cA o b6 P S4 ++ [(qo, .inl (cJ, 1, .inr (.inl f5)))]) ++ MW cI cZ cA mo mb P' S10) := hD
  have hZ := zs_ticks hI hT (by omega) hr2.1 hr8.1
  have hTr8 : zXr (k + 1) P S4 P' S10 := hZ.2
  refine lv_istore (lv' := [(6, .int r8), (5, .int r2), (4, .int (nI (4 * k))), (3, .ref qo), (2, .ref (mo 0)), (1, .ref (o 0)), (0, .ref sb)]) hx hb dLA_law_531 hl (by decide) rfl (fun ls hl => ?_)
  refine lv_goto (tgt := 877) hx hb dLA_law_533 (by decide) ?_
  exact NX H locs ls b6 P S4 P' S10 f5 ⟨hI, gSr2, gSr8, hTr8⟩ hP hD hS (lv_sub hl [2, 3, 4, 5, 6] rfl)
set_option maxHeartbeats 4000000 in
set_option maxRecDepth 100000 in
theorem law_10 {p : Program} {e : Env} {s : State} {m : MethodId} {below : List Frame} {meth : Method} {c : Code} (l : Launch) (hfl : l.flags = Jvm.pinnedFlags ++ [Jvm.noTraceFlag]) {sb L : Nat} {xs : Nat → Int32} (C0 : zAt p s m meth c sb L xs) (dC : Nat → ClassId) (dI : Nat → Nat → Nat) (cI cZ cJ cA : ClassId) (hK : va_K (dC, dI) zCl (zTZ cI cZ cJ cA) s) {o mo mb : Nat → Nat} {qo : Nat} {k cs ss : Nat} (hL : L ≤ 2048) (hcs : cs + 1 ≤ 601024) (hss : ss + 6 ≤ 7293034) (hk : 4 * k + 4 ≤ L) (NX : zGo p l e s m below meth c dC dI cI cZ cJ cA sb qo o mo mb (k + 1) (nI (4 * k)) 877 (cs + 1) (ss + 6)) : zGo p l e s m below meth c dC dI cI cZ cJ cA sb qo o mo mb (k) (nI (4 * k)) 536 (cs) (ss) := by
  intro H locs ls b P S P' S' f hR hP hD hS hl
  have C1 := C0
  obtain ⟨hx, hb, hr, hml, hown, hB, hX, hbl, hlocks⟩ := C0
  have hA0 : ∀ q, zN s.heap.size q → s.heap.size ≤ q := fun _ h => h
  have hAD := hA0
  have hA : ∀ q : Nat, s.heap.size ≤ q → zN s.heap.size q := fun _ h => h
  have hbA : ¬ zN s.heap.size sb := Nat.not_le.mpr hbl
  obtain ⟨hI, gS, gS', hT⟩ := hR
  have gP := hI.1
  have gP' := hI.2.1
  refine lv_aload_n hx hb dLA_law_536 rfl (lv_at hl 3 rfl) ?_
  refine lv_aload_n hx hb dLA_law_537 rfl (lv_at hl 4 rfl) ?_
  refine lv_iload hx hb dLA_law_538 (lv_at hl 0 rfl) ?_
  refine lv_iconst (v := 1) hx hb dLA_law_540 (by decide) ?_
  refine lv_iadd hx hb dLA_law_541 ?_
  refine lv_topi (fun k1 ek1 => ?_)
  have ek1 : k1 = nI ((4 * k) + 1) := ek1.trans (nI_add (4 * k) 1)
  subst ek1
  refine va_sld hx hb hX hbl hbA hS (i := nI ((4 * k) + 1)) (vp_in_nI (by omega) (by omega)) dLA_law_542 ?_
  refine lv_aload_n hx hb dLA_law_543 rfl (lv_at hl 4 rfl) ?_
  refine lv_iload hx hb dLA_law_544 (lv_at hl 0 rfl) ?_
  refine lv_iconst (v := 2) hx hb dLA_law_546 (by decide) ?_
  refine lv_iadd hx hb dLA_law_547 ?_
  refine lv_topi (fun k2 ek2 => ?_)
  have ek2 : k2 = nI ((4 * k) + 2) := ek2.trans (nI_add (4 * k) 2)
  subst ek2
  refine va_sld hx hb hX hbl hbA hS (i := nI ((4 * k) + 2)) (vp_in_nI (by omega) (by omega)) dLA_law_548 ?_
  refine lv_aload_n hx hb dLA_law_549 rfl (lv_at hl 1 rfl) ?_
  have hcw : ∀ w ∈ [Cond.codeWith yLA_host bLA_host 5 (some .int) [(0, 10, 13, 19), (0, 10, 17, 13)]], w.before ([.ref sb] : List Value).toArray s = true := fun w h => by rw [List.mem_singleton.mp h]; exact hB.word (zm4 k4_22) rfl
  refine zcIL (tq_runSW (n := 4) (As := [.ref (o 0), .int (xs (nI ((4 * k) + 1)).toNatClampNeg), .int (xs (nI ((4 * k) + 2)).toNatClampNeg), .ref qo]) (rest := []) ⟨hx, hb, hml, hown, hcw⟩ (tLA_host l dC dI cI cZ cJ cA #[Value.ref sb] s o b hfl P S f qo H.size (xs (nI ((4 * k) + 1)).toNatClampNeg) (xs (nI ((4 * k) + 2)).toNatClampNeg) gP gS) zgoodW rfl rfl rfl ⟨Nat.le_of_ble_eq_true rfl, Nat.le_of_ble_eq_true rfl⟩ (hB.word (zm4 k4_21) rfl) (hB.word (zm1 k1_0) rfl) (hB.word (zm4 k4_20) rfl) (by decide +kernel) ⟨zP_blind, zP_pre (zPL hP) hK (zDL hD) hAD (zB_on hB hA0 hS)⟩ rfl rfl hl.1 rfl (lv_room (Nat.le_of_ble_eq_true rfl)) dLA_law_550 ⟨hcs, hss⟩) hP hD hS hA (fun r3 x9 H locs hr3 hP hD hS => ?_)
  obtain ⟨P4, S5, f6⟩ := x9
  have hP : va_P (dC, dI) zCl ((CW cI cZ cA o b P4 S5 ++ [(qo, .inl (cJ, 1, .inr (.inl f6)))]) ++ MW cI cZ cA mo mb P' S') H := hP
  have hD : va_D (zN s.heap.size) ((CW cI cZ cA o b P4 S5 ++ [(qo, .inl (cJ, 1, .inr (.inl f6)))]) ++ MW cI cZ cA mo mb P' S') := hD
  have gPr3 := hr3.2.1
  have gSr3 := hr3.2.2
  have ePr3 : P4 = P := zH_host_P hr3.1
  rw [ePr3] at hP hD
  refine lv_istore (lv' := [(5, .int r3), (4, .int (nI (4 * k))), (3, .ref qo), (2, .ref (mo 0)), (1, .ref (o 0)), (0, .ref sb)]) hx hb dLA_law_553 hl (by decide) rfl (fun ls hl => ?_)
  refine lv_aload_n hx hb dLA_law_555 rfl (lv_at hl 3 rfl) ?_
  refine lv_aload_n hx hb dLA_law_556 rfl (lv_at hl 5 rfl) ?_
  refine lv_iload hx hb dLA_law_557 (lv_at hl 1 rfl) ?_
  refine lv_iconst (v := 1) hx hb dLA_law_559 (by decide) ?_
  refine lv_iadd hx hb dLA_law_560 ?_
  refine lv_topi (fun k8 ek8 => ?_)
  have ek8 : k8 = nI ((4 * k) + 1) := ek8.trans (nI_add (4 * k) 1)
  subst ek8
  refine va_sld hx hb hX hbl hbA hS (i := nI ((4 * k) + 1)) (vp_in_nI (by omega) (by omega)) dLA_law_561 ?_
  refine lv_aload_n hx hb dLA_law_562 rfl (lv_at hl 5 rfl) ?_
  refine lv_iload hx hb dLA_law_563 (lv_at hl 1 rfl) ?_
  refine lv_iconst (v := 2) hx hb dLA_law_565 (by decide) ?_
  refine lv_iadd hx hb dLA_law_566 ?_
  refine lv_topi (fun k9 ek9 => ?_)
  have ek9 : k9 = nI ((4 * k) + 2) := ek9.trans (nI_add (4 * k) 2)
  subst ek9
  refine va_sld hx hb hX hbl hbA hS (i := nI ((4 * k) + 2)) (vp_in_nI (by omega) (by omega)) dLA_law_567 ?_
  have hP := zPC hP
  have hD := zDC hD
  have hPc := zPL hP
  have hDc := zDL hD
  refine zcIL (va_runV (As := [.int (xs (nI ((4 * k) + 1)).toNatClampNeg), .int (xs (nI ((4 * k) + 2)).toNatClampNeg)]) (rest := []) ⟨hx, hb, hml, hown, zno⟩ (tMO_host l dC dI cI cZ cJ cA #[Value.ref sb] s mo mb P' S' H.size (xs (nI ((4 * k) + 1)).toNatClampNeg) (xs (nI ((4 * k) + 2)).toNatClampNeg) gP' gS') (zcw 2 (hB.word (zm5 k5_227) rfl) (hB.word (zm1 k1_9) rfl) (hB.word (zm5 k5_224) rfl) (hB.word (zm5 k5_225) rfl) (hB.word (zm5 k5_226) rfl) rfl rfl (by decide +kernel) ⟨Nat.le_of_ble_eq_true rfl, Nat.le_of_ble_eq_true rfl⟩) ⟨zP_blind, va_recv hK hPc (ci := 7) (q0 := 0) rfl rfl, zP_pre hPc hK hDc hAD (zB_on hB hA0 hS)⟩ rfl rfl hl.1 rfl (lv_room (Nat.le_of_ble_eq_true rfl)) dLA_law_568 ⟨hcs, hss⟩) hP hD hS hA (fun r10 x9 H locs hr10 hP hD hS => ?_)
  generalize x9 = S12 at hr10 hP hD
  have gSr10 := hr10.2.1
  have hP := zPC hP
  have hD := zDC hD
  have hP : va_P (dC, dI) zCl ((CW cI cZ cA o b P S5 ++ [(qo, .inl (cJ, 1, .inr (.inl f6)))]) ++ MW cI cZ cA mo mb P' S12) H := hP
  have hD : va_D (zN s.heap.size) ((CW cI cZ cA o b P S5 ++ [(qo, .inl (cJ, 1, .inr (.inl f6)))]) ++ MW cI cZ cA mo mb P' S12) := hD
  have hTr10 : zXr (k + 1) P S5 P' S12 := zk_host hI hT hr3.1 hr10.1
  refine lv_istore (lv' := [(6, .int r10), (5, .int r3), (4, .int (nI (4 * k))), (3, .ref qo), (2, .ref (mo 0)), (1, .ref (o 0)), (0, .ref sb)]) hx hb dLA_law_571 hl (by decide) rfl (fun ls hl => ?_)
  refine lv_goto (tgt := 877) hx hb dLA_law_573 (by decide) ?_
  exact NX H locs ls b P S5 P' S12 f6 ⟨hI, gSr3, gSr10, hTr10⟩ hP hD hS (lv_sub hl [2, 3, 4, 5, 6] rfl)
set_option maxHeartbeats 4000000 in
set_option maxRecDepth 100000 in
theorem law_11 {p : Program} {e : Env} {s : State} {m : MethodId} {below : List Frame} {meth : Method} {c : Code} (l : Launch) (hfl : l.flags = Jvm.pinnedFlags ++ [Jvm.noTraceFlag]) {sb L : Nat} {xs : Nat → Int32} (C0 : zAt p s m meth c sb L xs) (dC : Nat → ClassId) (dI : Nat → Nat → Nat) (cI cZ cJ cA : ClassId) (hK : va_K (dC, dI) zCl (zTZ cI cZ cJ cA) s) {o mo mb : Nat → Nat} {qo : Nat} {k cs ss : Nat} (hL : L ≤ 2048) (hcs : cs + 1 ≤ 601024) (hss : ss + 6 ≤ 7293034) (hk : 4 * k + 4 ≤ L) (NX : zGo p l e s m below meth c dC dI cI cZ cJ cA sb qo o mo mb (k + 1) (nI (4 * k)) 877 (cs + 1) (ss + 6)) : zGo p l e s m below meth c dC dI cI cZ cJ cA sb qo o mo mb (k) (nI (4 * k)) 576 (cs) (ss) := by
  intro H locs ls b P S P' S' f hR hP hD hS hl
  have C1 := C0
  obtain ⟨hx, hb, hr, hml, hown, hB, hX, hbl, hlocks⟩ := C0
  have hA0 : ∀ q, zN s.heap.size q → s.heap.size ≤ q := fun _ h => h
  have hAD := hA0
  have hA : ∀ q : Nat, s.heap.size ≤ q → zN s.heap.size q := fun _ h => h
  have hbA : ¬ zN s.heap.size sb := Nat.not_le.mpr hbl
  obtain ⟨hI, gS, gS', hT⟩ := hR
  have gP := hI.1
  have gP' := hI.2.1
  refine lv_aload_n hx hb dLA_law_576 rfl (lv_at hl 3 rfl) ?_
  refine lv_aload_n hx hb dLA_law_577 rfl (lv_at hl 4 rfl) ?_
  refine lv_iload hx hb dLA_law_578 (lv_at hl 0 rfl) ?_
  refine lv_iconst (v := 1) hx hb dLA_law_580 (by decide) ?_
  refine lv_iadd hx hb dLA_law_581 ?_
  refine lv_topi (fun k1 ek1 => ?_)
  have ek1 : k1 = nI ((4 * k) + 1) := ek1.trans (nI_add (4 * k) 1)
  subst ek1
  refine va_sld hx hb hX hbl hbA hS (i := nI ((4 * k) + 1)) (vp_in_nI (by omega) (by omega)) dLA_law_582 ?_
  refine lv_aload_n hx hb dLA_law_583 rfl (lv_at hl 4 rfl) ?_
  refine lv_iload hx hb dLA_law_584 (lv_at hl 0 rfl) ?_
  refine lv_iconst (v := 2) hx hb dLA_law_586 (by decide) ?_
  refine lv_iadd hx hb dLA_law_587 ?_
  refine lv_topi (fun k2 ek2 => ?_)
  have ek2 : k2 = nI ((4 * k) + 2) := ek2.trans (nI_add (4 * k) 2)
  subst ek2
  refine va_sld hx hb hX hbl hbA hS (i := nI ((4 * k) + 2)) (vp_in_nI (by omega) (by omega)) dLA_law_588 ?_
  refine lv_aload_n hx hb dLA_law_589 rfl (lv_at hl 4 rfl) ?_
  refine lv_iload hx hb dLA_law_590 (lv_at hl 0 rfl) ?_
  refine lv_iconst (v := 3) hx hb dLA_law_592 (by decide) ?_
  refine lv_iadd hx hb dLA_law_593 ?_
  refine lv_topi (fun k3 ek3 => ?_)
  have ek3 : k3 = nI ((4 * k) + 3) := ek3.trans (nI_add (4 * k) 3)
  subst ek3
  refine va_sld hx hb hX hbl hbA hS (i := nI ((4 * k) + 3)) (vp_in_nI (by omega) (by omega)) dLA_law_594 ?_
  refine lv_aload_n hx hb dLA_law_595 rfl (lv_at hl 1 rfl) ?_
  have hcw : ∀ w ∈ [Cond.codeWith yLA_send bLA_send 6 (some .int) [(0, 12, 15, 19), (0, 12, 19, 13)]], w.before ([.ref sb] : List Value).toArray s = true := fun w h => by rw [List.mem_singleton.mp h]; exact hB.word (zm4 k4_38) rfl
  refine zcIL (tq_runSW (n := 5) (As := [.ref (o 0), .int (xs (nI ((4 * k) + 1)).toNatClampNeg), .int (xs (nI ((4 * k) + 2)).toNatClampNeg), .int (xs (nI ((4 * k) + 3)).toNatClampNeg), .ref qo]) (rest := []) ⟨hx, hb, hml, hown, hcw⟩ (tLA_send l dC dI cI cZ cJ cA #[Value.ref sb] s o b hfl P S f qo H.size (xs (nI ((4 * k) + 1)).toNatClampNeg) (xs (nI ((4 * k) + 2)).toNatClampNeg) (xs (nI ((4 * k) + 3)).toNatClampNeg) gP gS) zgoodW rfl rfl rfl ⟨Nat.le_of_ble_eq_true rfl, Nat.le_of_ble_eq_true rfl⟩ (hB.word (zm4 k4_37) rfl) (hB.word (zm1 k1_0) rfl) (hB.word (zm4 k4_36) rfl) (by decide +kernel) ⟨zP_blind, zP_pre (zPL hP) hK (zDL hD) hAD (zB_on hB hA0 hS)⟩ rfl rfl hl.1 rfl (lv_room (Nat.le_of_ble_eq_true rfl)) dLA_law_596 ⟨hcs, hss⟩) hP hD hS hA (fun r4 x9 H locs hr4 hP hD hS => ?_)
  obtain ⟨P5, S6, f7⟩ := x9
  have hP : va_P (dC, dI) zCl ((CW cI cZ cA o b P5 S6 ++ [(qo, .inl (cJ, 1, .inr (.inl f7)))]) ++ MW cI cZ cA mo mb P' S') H := hP
  have hD : va_D (zN s.heap.size) ((CW cI cZ cA o b P5 S6 ++ [(qo, .inl (cJ, 1, .inr (.inl f7)))]) ++ MW cI cZ cA mo mb P' S') := hD
  have gPr4 := hr4.2.1
  have gSr4 := hr4.2.2
  have ePr4 : P5 = P := zH_send_P hr4.1
  rw [ePr4] at hP hD
  refine lv_istore (lv' := [(5, .int r4), (4, .int (nI (4 * k))), (3, .ref qo), (2, .ref (mo 0)), (1, .ref (o 0)), (0, .ref sb)]) hx hb dLA_law_599 hl (by decide) rfl (fun ls hl => ?_)
  refine lv_aload_n hx hb dLA_law_601 rfl (lv_at hl 3 rfl) ?_
  refine lv_aload_n hx hb dLA_law_602 rfl (lv_at hl 5 rfl) ?_
  refine lv_iload hx hb dLA_law_603 (lv_at hl 1 rfl) ?_
  refine lv_iconst (v := 1) hx hb dLA_law_605 (by decide) ?_
  refine lv_iadd hx hb dLA_law_606 ?_
  refine lv_topi (fun k9 ek9 => ?_)
  have ek9 : k9 = nI ((4 * k) + 1) := ek9.trans (nI_add (4 * k) 1)
  subst ek9
  refine va_sld hx hb hX hbl hbA hS (i := nI ((4 * k) + 1)) (vp_in_nI (by omega) (by omega)) dLA_law_607 ?_
  refine lv_aload_n hx hb dLA_law_608 rfl (lv_at hl 5 rfl) ?_
  refine lv_iload hx hb dLA_law_609 (lv_at hl 1 rfl) ?_
  refine lv_iconst (v := 2) hx hb dLA_law_611 (by decide) ?_
  refine lv_iadd hx hb dLA_law_612 ?_
  refine lv_topi (fun k10 ek10 => ?_)
  have ek10 : k10 = nI ((4 * k) + 2) := ek10.trans (nI_add (4 * k) 2)
  subst ek10
  refine va_sld hx hb hX hbl hbA hS (i := nI ((4 * k) + 2)) (vp_in_nI (by omega) (by omega)) dLA_law_613 ?_
  refine lv_aload_n hx hb dLA_law_614 rfl (lv_at hl 5 rfl) ?_
  refine lv_iload hx hb dLA_law_615 (lv_at hl 1 rfl) ?_
  refine lv_iconst (v := 3) hx hb dLA_law_617 (by decide) ?_
  refine lv_iadd hx hb dLA_law_618 ?_
  refine lv_topi (fun k11 ek11 => ?_)
  have ek11 : k11 = nI ((4 * k) + 3) := ek11.trans (nI_add (4 * k) 3)
  subst ek11
  refine va_sld hx hb hX hbl hbA hS (i := nI ((4 * k) + 3)) (vp_in_nI (by omega) (by omega)) dLA_law_619 ?_
  have hP := zPC hP
  have hD := zDC hD
  have hPc := zPL hP
  have hDc := zDL hD
  refine zcIL (va_runV (As := [.int (xs (nI ((4 * k) + 1)).toNatClampNeg), .int (xs (nI ((4 * k) + 2)).toNatClampNeg), .int (xs (nI ((4 * k) + 3)).toNatClampNeg)]) (rest := []) ⟨hx, hb, hml, hown, zno⟩ (tMO_send l dC dI cI cZ cJ cA #[Value.ref sb] s mo mb P' S' H.size (xs (nI ((4 * k) + 1)).toNatClampNeg) (xs (nI ((4 * k) + 2)).toNatClampNeg) (xs (nI ((4 * k) + 3)).toNatClampNeg) gP' gS') (zcw 3 (hB.word (zm5 k5_231) rfl) (hB.word (zm1 k1_9) rfl) (hB.word (zm5 k5_228) rfl) (hB.word (zm5 k5_229) rfl) (hB.word (zm5 k5_230) rfl) rfl rfl (by decide +kernel) ⟨Nat.le_of_ble_eq_true rfl, Nat.le_of_ble_eq_true rfl⟩) ⟨zP_blind, va_recv hK hPc (ci := 7) (q0 := 0) rfl rfl, zP_pre hPc hK hDc hAD (zB_on hB hA0 hS)⟩ rfl rfl hl.1 rfl (lv_room (Nat.le_of_ble_eq_true rfl)) dLA_law_620 ⟨hcs, hss⟩) hP hD hS hA (fun r12 x9 H locs hr12 hP hD hS => ?_)
  generalize x9 = S14 at hr12 hP hD
  have gSr12 := hr12.2.1
  have hP := zPC hP
  have hD := zDC hD
  have hP : va_P (dC, dI) zCl ((CW cI cZ cA o b P S6 ++ [(qo, .inl (cJ, 1, .inr (.inl f7)))]) ++ MW cI cZ cA mo mb P' S14) H := hP
  have hD : va_D (zN s.heap.size) ((CW cI cZ cA o b P S6 ++ [(qo, .inl (cJ, 1, .inr (.inl f7)))]) ++ MW cI cZ cA mo mb P' S14) := hD
  have hTr12 : zXr (k + 1) P S6 P' S14 := zk_send hT hr4.1 hr12.1
  refine lv_istore (lv' := [(6, .int r12), (5, .int r4), (4, .int (nI (4 * k))), (3, .ref qo), (2, .ref (mo 0)), (1, .ref (o 0)), (0, .ref sb)]) hx hb dLA_law_623 hl (by decide) rfl (fun ls hl => ?_)
  refine lv_goto (tgt := 877) hx hb dLA_law_625 (by decide) ?_
  exact NX H locs ls b P S6 P' S14 f7 ⟨hI, gSr4, gSr12, hTr12⟩ hP hD hS (lv_sub hl [2, 3, 4, 5, 6] rfl)
set_option maxHeartbeats 4000000 in
set_option maxRecDepth 100000 in
theorem law_12 {p : Program} {e : Env} {s : State} {m : MethodId} {below : List Frame} {meth : Method} {c : Code} (l : Launch) (hfl : l.flags = Jvm.pinnedFlags ++ [Jvm.noTraceFlag]) {sb L : Nat} {xs : Nat → Int32} (C0 : zAt p s m meth c sb L xs) (dC : Nat → ClassId) (dI : Nat → Nat → Nat) (cI cZ cJ cA : ClassId) (hK : va_K (dC, dI) zCl (zTZ cI cZ cJ cA) s) {o mo mb : Nat → Nat} {qo : Nat} {k cs ss : Nat} (hL : L ≤ 2048) (hcs : cs + 1 ≤ 601024) (hss : ss + 6 ≤ 7293034) (hk : 4 * k + 4 ≤ L) (NX : zGo p l e s m below meth c dC dI cI cZ cJ cA sb qo o mo mb (k + 1) (nI (4 * k)) 877 (cs + 1) (ss + 6)) : zGo p l e s m below meth c dC dI cI cZ cJ cA sb qo o mo mb (k) (nI (4 * k)) 628 (cs) (ss) := by
  intro H locs ls b P S P' S' f hR hP hD hS hl
  have C1 := C0
  obtain ⟨hx, hb, hr, hml, hown, hB, hX, hbl, hlocks⟩ := C0
  have hA0 : ∀ q, zN s.heap.size q → s.heap.size ≤ q := fun _ h => h
  have hAD := hA0
  have hA : ∀ q : Nat, s.heap.size ≤ q → zN s.heap.size q := fun _ h => h
  have hbA : ¬ zN s.heap.size sb := Nat.not_le.mpr hbl
  obtain ⟨hI, gS, gS', hT⟩ := hR
  have gP := hI.1
  have gP' := hI.2.1
  refine lv_aload_n hx hb dLA_law_628 rfl (lv_at hl 3 rfl) ?_
  have hPc := zPL (zPL hP)
  have hDc := zDL (zDL hD)
  refine zcallp (va_runV (As := []) (rest := []) ⟨hx, hb, hml, hown, zno⟩ (tRG_visits l dC dI cI cZ cJ cA #[Value.ref sb] s o b P S H.size  gP gS) (zcw 0 (hB.word (zm2 k2_38) rfl) (hB.word (zm1 k1_1) rfl) (hB.word (zm2 k2_35) rfl) (hB.word (zm2 k2_36) rfl) (hB.word (zm2 k2_37) rfl) rfl rfl (by decide +kernel) ⟨Nat.le_of_ble_eq_true rfl, Nat.le_of_ble_eq_true rfl⟩) ⟨zP_blind, va_recv hK hPc (ci := 0) (q0 := 0) rfl rfl, zP_pre hPc hK hDc hAD (zB_on hB hA0 hS)⟩ rfl rfl hl.1 rfl (lv_room (Nat.le_of_ble_eq_true rfl)) dLA_law_629 ⟨Nat.le_of_succ_le hcs, Nat.le_trans (Nat.le_add_right _ _) hss⟩) hS hA (fun r1 H1 locs hr1 hz1 hk1 hS => ?_)
  have hP := zKeep hP hk1
  generalize H1 = H at hP hS ⊢
  have hP : va_P (dC, dI) zCl ((CW cI cZ cA o b P S ++ [(qo, .inl (cJ, 1, .inr (.inl f)))]) ++ MW cI cZ cA mo mb P' S') H := hP
  have hD : va_D (zN s.heap.size) ((CW cI cZ cA o b P S ++ [(qo, .inl (cJ, 1, .inr (.inl f)))]) ++ MW cI cZ cA mo mb P' S') := hD
  refine lv_pop hx hb dLA_law_632 rfl ?_
  refine lv_aload_n hx hb dLA_law_633 rfl (lv_at hl 2 rfl) ?_
  have hP := zPC hP
  have hD := zDC hD
  have hPc := zPL hP
  have hDc := zDL hD
  refine zcIL (va_runV (As := []) (rest := []) ⟨hx, hb, hml, hown, zno⟩ (tMO_visits l dC dI cI cZ cJ cA #[Value.ref sb] s mo mb P' S' H.size  gP' gS') (zcw 0 (hB.word (zm6 k6_3) rfl) (hB.word (zm1 k1_9) rfl) (hB.word (zm6 k6_0) rfl) (hB.word (zm6 k6_1) rfl) (hB.word (zm6 k6_2) rfl) rfl rfl (by decide +kernel) ⟨Nat.le_of_ble_eq_true rfl, Nat.le_of_ble_eq_true rfl⟩) ⟨zP_blind, va_recv hK hPc (ci := 7) (q0 := 0) rfl rfl, zP_pre hPc hK hDc hAD (zB_on hB hA0 hS)⟩ rfl rfl hl.1 rfl (lv_room (Nat.le_of_ble_eq_true rfl)) dLA_law_634 ⟨Nat.le_of_succ_le hcs, Nat.le_trans (Nat.le_add_right _ _) hss⟩) hP hD hS hA (fun r2 x9 H locs hr2 hP hD hS => ?_)
  generalize x9 = S4 at hr2 hP hD
  have gSr2 := hr2.2.1
  have hP := zPC hP
  have hD := zDC hD
  have hP : va_P (dC, dI) zCl ((CW cI cZ cA o b P S ++ [(qo, .inl (cJ, 1, .inr (.inl f)))]) ++ MW cI cZ cA mo mb P' S4) H := hP
  have hD : va_D (zN s.heap.size) ((CW cI cZ cA o b P S ++ [(qo, .inl (cJ, 1, .inr (.inl f)))]) ++ MW cI cZ cA mo mb P' S4) := hD
  have hTr2 : zXr (k + 1) P S P' S4 := zk_visits hT hr2.1
  refine lv_pop hx hb dLA_law_637 rfl ?_
  refine lv_goto (tgt := 877) hx hb dLA_law_638 (by decide) ?_
  refine W.widen (k := cs + 1) (n := ss + 6) (Nat.le_add_right _ _) (Nat.le_add_right _ _) ?_
  exact NX H locs ls b P S P' S4 f ⟨hI, gS, gSr2, hTr2⟩ hP hD hS (lv_sub hl [0, 1, 2, 3, 4] rfl)
set_option maxHeartbeats 4000000 in
set_option maxRecDepth 100000 in
theorem law_13 {p : Program} {e : Env} {s : State} {m : MethodId} {below : List Frame} {meth : Method} {c : Code} (l : Launch) (hfl : l.flags = Jvm.pinnedFlags ++ [Jvm.noTraceFlag]) {sb L : Nat} {xs : Nat → Int32} (C0 : zAt p s m meth c sb L xs) (dC : Nat → ClassId) (dI : Nat → Nat → Nat) (cI cZ cJ cA : ClassId) (hK : va_K (dC, dI) zCl (zTZ cI cZ cJ cA) s) {o mo mb : Nat → Nat} {qo : Nat} {k cs ss : Nat} (hL : L ≤ 2048) (hcs : cs + 1 ≤ 601024) (hss : ss + 6 ≤ 7293034) (hk : 4 * k + 4 ≤ L) (NX : zGo p l e s m below meth c dC dI cI cZ cJ cA sb qo o mo mb (k + 1) (nI (4 * k)) 877 (cs + 1) (ss + 6)) : zGo p l e s m below meth c dC dI cI cZ cJ cA sb qo o mo mb (k) (nI (4 * k)) 641 (cs) (ss) := by
  intro H locs ls b P S P' S' f hR hP hD hS hl
  have C1 := C0
  obtain ⟨hx, hb, hr, hml, hown, hB, hX, hbl, hlocks⟩ := C0
  have hA0 : ∀ q, zN s.heap.size q → s.heap.size ≤ q := fun _ h => h
  have hAD := hA0
  have hA : ∀ q : Nat, s.heap.size ≤ q → zN s.heap.size q := fun _ h => h
  have hbA : ¬ zN s.heap.size sb := Nat.not_le.mpr hbl
  obtain ⟨hI, gS, gS', hT⟩ := hR
  have gP := hI.1
  have gP' := hI.2.1
  refine lv_aload_n hx hb dLA_law_641 rfl (lv_at hl 3 rfl) ?_
  refine lv_aload_n hx hb dLA_law_642 rfl (lv_at hl 4 rfl) ?_
  refine lv_iload hx hb dLA_law_643 (lv_at hl 0 rfl) ?_
  refine lv_iconst (v := 1) hx hb dLA_law_645 (by decide) ?_
  refine lv_iadd hx hb dLA_law_646 ?_
  refine lv_topi (fun k1 ek1 => ?_)
  have ek1 : k1 = nI ((4 * k) + 1) := ek1.trans (nI_add (4 * k) 1)
  subst ek1
  refine va_sld hx hb hX hbl hbA hS (i := nI ((4 * k) + 1)) (vp_in_nI (by omega) (by omega)) dLA_law_647 ?_
  refine lv_aload_n hx hb dLA_law_648 rfl (lv_at hl 4 rfl) ?_
  refine lv_iload hx hb dLA_law_649 (lv_at hl 0 rfl) ?_
  refine lv_iconst (v := 2) hx hb dLA_law_651 (by decide) ?_
  refine lv_iadd hx hb dLA_law_652 ?_
  refine lv_topi (fun k2 ek2 => ?_)
  have ek2 : k2 = nI ((4 * k) + 2) := ek2.trans (nI_add (4 * k) 2)
  subst ek2
  refine va_sld hx hb hX hbl hbA hS (i := nI ((4 * k) + 2)) (vp_in_nI (by omega) (by omega)) dLA_law_653 ?_
  refine lv_aload_n hx hb dLA_law_654 rfl (lv_at hl 1 rfl) ?_
  have hcw : ∀ w ∈ [Cond.codeWith yLA_holds bLA_holds 5 (some .int) [(0, 10, 13, 19)]], w.before ([.ref sb] : List Value).toArray s = true := fun w h => by rw [List.mem_singleton.mp h]; exact hB.word (zm4 k4_80) rfl
  refine zcIL (tq_runSW (n := 4) (As := [.ref (o 0), .int (xs (nI ((4 * k) + 1)).toNatClampNeg), .int (xs (nI ((4 * k) + 2)).toNatClampNeg), .ref qo]) (rest := []) ⟨hx, hb, hml, hown, hcw⟩ (tLA_holds l dC dI cI cZ cJ cA #[Value.ref sb] s o b hfl P S f qo H.size (xs (nI ((4 * k) + 1)).toNatClampNeg) (xs (nI ((4 * k) + 2)).toNatClampNeg) gP gS) zgoodW rfl rfl rfl ⟨Nat.le_of_ble_eq_true rfl, Nat.le_of_ble_eq_true rfl⟩ (hB.word (zm4 k4_79) rfl) (hB.word (zm1 k1_0) rfl) (hB.word (zm4 k4_78) rfl) (by decide +kernel) ⟨zP_blind, zP_pre (zPL hP) hK (zDL hD) hAD (zB_on hB hA0 hS)⟩ rfl rfl hl.1 rfl (lv_room (Nat.le_of_ble_eq_true rfl)) dLA_law_655 ⟨hcs, hss⟩) hP hD hS hA (fun r3 x9 H locs hr3 hP hD hS => ?_)
  obtain ⟨P4, S5, f6⟩ := x9
  have hP : va_P (dC, dI) zCl ((CW cI cZ cA o b P4 S5 ++ [(qo, .inl (cJ, 1, .inr (.inl f6)))]) ++ MW cI cZ cA mo mb P' S') H := hP
  have hD : va_D (zN s.heap.size) ((CW cI cZ cA o b P4 S5 ++ [(qo, .inl (cJ, 1, .inr (.inl f6)))]) ++ MW cI cZ cA mo mb P' S') := hD
  have gPr3 := hr3.2.1
  have gSr3 := hr3.2.2
  have ePr3 : P4 = P := zH_holds_P hr3.1
  rw [ePr3] at hP hD
  refine lv_istore (lv' := [(5, .int r3), (4, .int (nI (4 * k))), (3, .ref qo), (2, .ref (mo 0)), (1, .ref (o 0)), (0, .ref sb)]) hx hb dLA_law_658 hl (by decide) rfl (fun ls hl => ?_)
  refine lv_aload_n hx hb dLA_law_660 rfl (lv_at hl 3 rfl) ?_
  refine lv_aload_n hx hb dLA_law_661 rfl (lv_at hl 5 rfl) ?_
  refine lv_iload hx hb dLA_law_662 (lv_at hl 1 rfl) ?_
  refine lv_iconst (v := 1) hx hb dLA_law_664 (by decide) ?_
  refine lv_iadd hx hb dLA_law_665 ?_
  refine lv_topi (fun k8 ek8 => ?_)
  have ek8 : k8 = nI ((4 * k) + 1) := ek8.trans (nI_add (4 * k) 1)
  subst ek8
  refine va_sld hx hb hX hbl hbA hS (i := nI ((4 * k) + 1)) (vp_in_nI (by omega) (by omega)) dLA_law_666 ?_
  refine lv_aload_n hx hb dLA_law_667 rfl (lv_at hl 5 rfl) ?_
  refine lv_iload hx hb dLA_law_668 (lv_at hl 1 rfl) ?_
  refine lv_iconst (v := 2) hx hb dLA_law_670 (by decide) ?_
  refine lv_iadd hx hb dLA_law_671 ?_
  refine lv_topi (fun k9 ek9 => ?_)
  have ek9 : k9 = nI ((4 * k) + 2) := ek9.trans (nI_add (4 * k) 2)
  subst ek9
  refine va_sld hx hb hX hbl hbA hS (i := nI ((4 * k) + 2)) (vp_in_nI (by omega) (by omega)) dLA_law_672 ?_
  have hP := zPC hP
  have hD := zDC hD
  have hPc := zPL hP
  have hDc := zDL hD
  refine zcIL (va_runV (As := [.int (xs (nI ((4 * k) + 1)).toNatClampNeg), .int (xs (nI ((4 * k) + 2)).toNatClampNeg)]) (rest := []) ⟨hx, hb, hml, hown, zno⟩ (tMO_holds l dC dI cI cZ cJ cA #[Value.ref sb] s mo mb P' S' H.size (xs (nI ((4 * k) + 1)).toNatClampNeg) (xs (nI ((4 * k) + 2)).toNatClampNeg) gP' gS') (zcw 2 (hB.word (zm6 k6_7) rfl) (hB.word (zm1 k1_9) rfl) (hB.word (zm6 k6_4) rfl) (hB.word (zm6 k6_5) rfl) (hB.word (zm6 k6_6) rfl) rfl rfl (by decide +kernel) ⟨Nat.le_of_ble_eq_true rfl, Nat.le_of_ble_eq_true rfl⟩) ⟨zP_blind, va_recv hK hPc (ci := 7) (q0 := 0) rfl rfl, zP_pre hPc hK hDc hAD (zB_on hB hA0 hS)⟩ rfl rfl hl.1 rfl (lv_room (Nat.le_of_ble_eq_true rfl)) dLA_law_673 ⟨hcs, hss⟩) hP hD hS hA (fun r10 x9 H locs hr10 hP hD hS => ?_)
  generalize x9 = S12 at hr10 hP hD
  have gSr10 := hr10.2.1
  have hP := zPC hP
  have hD := zDC hD
  have hP : va_P (dC, dI) zCl ((CW cI cZ cA o b P S5 ++ [(qo, .inl (cJ, 1, .inr (.inl f6)))]) ++ MW cI cZ cA mo mb P' S12) H := hP
  have hD : va_D (zN s.heap.size) ((CW cI cZ cA o b P S5 ++ [(qo, .inl (cJ, 1, .inr (.inl f6)))]) ++ MW cI cZ cA mo mb P' S12) := hD
  have hZ := zs_holds hI hT hr3.1 hr10.1
  have hTr10 : zXr (k + 1) P S5 P' S12 := hZ.2
  refine lv_istore (lv' := [(6, .int r10), (5, .int r3), (4, .int (nI (4 * k))), (3, .ref qo), (2, .ref (mo 0)), (1, .ref (o 0)), (0, .ref sb)]) hx hb dLA_law_676 hl (by decide) rfl (fun ls hl => ?_)
  refine lv_goto (tgt := 877) hx hb dLA_law_678 (by decide) ?_
  exact NX H locs ls b P S5 P' S12 f6 ⟨hI, gSr3, gSr10, hTr10⟩ hP hD hS (lv_sub hl [2, 3, 4, 5, 6] rfl)
