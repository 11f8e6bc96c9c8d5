/-! feed: both count the same signs -/
section MZF
theorem gz_32_0 : mz_pg 32 0 = some (.aload_n 0, 0, 0, 0) := by decide +kernel
theorem gz_32_1 : mz_pg 32 1 = some (.getfield 46, 9, 7, 535) := by decide +kernel
theorem gz_32_4 : mz_pg 32 4 = some (.lload_n 1, 0, 0, 0) := by decide +kernel
theorem gz_32_5 : mz_pg 32 5 = some (.invokevirtual 142, 1, 33, 658) := by decide +kernel
theorem gz_32_8 : mz_pg 32 8 = some (.aload_n 0, 0, 0, 0) := by decide +kernel
theorem gz_32_9 : mz_pg 32 9 = some (.getfield 46, 9, 7, 535) := by decide +kernel
theorem gz_32_12 : mz_pg 32 12 = some (.lload_n 3, 0, 0, 0) := by decide +kernel
theorem gz_32_13 : mz_pg 32 13 = some (.invokevirtual 142, 1, 33, 658) := by decide +kernel
theorem gz_32_16 : mz_pg 32 16 = some (.aload_n 0, 0, 0, 0) := by decide +kernel
theorem gz_32_17 : mz_pg 32 17 = some (.getfield 46, 9, 7, 535) := by decide +kernel
theorem gz_32_20 : mz_pg 32 20 = some (.lload 5, 0, 0, 0) := by decide +kernel
theorem gz_32_22 : mz_pg 32 22 = some (.invokevirtual 142, 1, 33, 658) := by decide +kernel
theorem gz_32_25 : mz_pg 32 25 = some (.aload_n 0, 0, 0, 0) := by decide +kernel
theorem gz_32_26 : mz_pg 32 26 = some (.getfield 46, 9, 7, 535) := by decide +kernel
theorem gz_32_29 : mz_pg 32 29 = some (.getfield 146, 5, 4, 286) := by decide +kernel
theorem gz_32_32 : mz_pg 32 32 = some (.ireturn, 0, 0, 0) := by decide +kernel
theorem gz_33_0 : mz_pg 33 0 = some (.bipush 56, 0, 0, 0) := by decide +kernel
theorem gz_33_2 : mz_pg 33 2 = some (.istore_n 3, 0, 0, 0) := by decide +kernel
theorem gz_33_3 : mz_pg 33 3 = some (.iload_n 3, 0, 0, 0) := by decide +kernel
theorem gz_33_4 : mz_pg 33 4 = some (.ifCond .lt 69, 0, 0, 0) := by decide +kernel
theorem gz_33_7 : mz_pg 33 7 = some (.lload_n 1, 0, 0, 0) := by decide +kernel
theorem gz_33_8 : mz_pg 33 8 = some (.iload_n 3, 0, 0, 0) := by decide +kernel
theorem gz_33_9 : mz_pg 33 9 = some (.lshr, 0, 0, 0) := by decide +kernel
theorem gz_33_10 : mz_pg 33 10 = some (.l2i, 0, 0, 0) := by decide +kernel
theorem gz_33_11 : mz_pg 33 11 = some (.sipush 255, 0, 0, 0) := by decide +kernel
theorem gz_33_14 : mz_pg 33 14 = some (.iand, 0, 0, 0) := by decide +kernel
theorem gz_33_15 : mz_pg 33 15 = some (.istore 4, 0, 0, 0) := by decide +kernel
theorem gz_33_17 : mz_pg 33 17 = some (.iload 4, 0, 0, 0) := by decide +kernel
theorem gz_33_19 : mz_pg 33 19 = some (.bipush 10, 0, 0, 0) := by decide +kernel
theorem gz_33_21 : mz_pg 33 21 = some (.if_icmp .eq 17, 0, 0, 0) := by decide +kernel
theorem gz_33_24 : mz_pg 33 24 = some (.iload 4, 0, 0, 0) := by decide +kernel
theorem gz_33_26 : mz_pg 33 26 = some (.bipush 32, 0, 0, 0) := by decide +kernel
theorem gz_33_28 : mz_pg 33 28 = some (.if_icmp .lt 39, 0, 0, 0) := by decide +kernel
theorem gz_33_31 : mz_pg 33 31 = some (.iload 4, 0, 0, 0) := by decide +kernel
theorem gz_33_33 : mz_pg 33 33 = some (.bipush 126, 0, 0, 0) := by decide +kernel
theorem gz_33_35 : mz_pg 33 35 = some (.if_icmp .gt 32, 0, 0, 0) := by decide +kernel
theorem gz_33_38 : mz_pg 33 38 = some (.aload_n 0, 0, 0, 0) := by decide +kernel
theorem gz_33_39 : mz_pg 33 39 = some (.getfield 30, 5, 4, 285) := by decide +kernel
theorem gz_33_42 : mz_pg 33 42 = some (.sipush 1000, 0, 0, 0) := by decide +kernel
theorem gz_33_45 : mz_pg 33 45 = some (.if_icmp .ge 22, 0, 0, 0) := by decide +kernel
theorem gz_33_48 : mz_pg 33 48 = some (.aload_n 0, 0, 0, 0) := by decide +kernel
theorem gz_33_49 : mz_pg 33 49 = some (.getfield 18, 5, 3, 284) := by decide +kernel
theorem gz_33_52 : mz_pg 33 52 = some (.aload_n 0, 0, 0, 0) := by decide +kernel
theorem gz_33_53 : mz_pg 33 53 = some (.dup, 0, 0, 0) := by decide +kernel
theorem gz_33_54 : mz_pg 33 54 = some (.getfield 30, 5, 4, 285) := by decide +kernel
theorem gz_33_57 : mz_pg 33 57 = some (.dup_x1, 0, 0, 0) := by decide +kernel
theorem gz_33_58 : mz_pg 33 58 = some (.iconst 1, 0, 0, 0) := by decide +kernel
theorem gz_33_59 : mz_pg 33 59 = some (.iadd, 0, 0, 0) := by decide +kernel
theorem gz_33_60 : mz_pg 33 60 = some (.putfield 30, 5, 4, 285) := by decide +kernel
theorem gz_33_63 : mz_pg 33 63 = some (.iload 4, 0, 0, 0) := by decide +kernel
theorem gz_33_65 : mz_pg 33 65 = some (.i2b, 0, 0, 0) := by decide +kernel
theorem gz_33_66 : mz_pg 33 66 = some (.bastore, 0, 0, 0) := by decide +kernel
theorem gz_33_67 : mz_pg 33 67 = some (.iinc 3 (-8), 0, 0, 0) := by decide +kernel
theorem gz_33_70 : mz_pg 33 70 = some (.goto (-67), 0, 0, 0) := by decide +kernel
theorem gz_33_73 : mz_pg 33 73 = some (.return_, 0, 0, 0) := by decide +kernel
theorem gz_144_0 : mz_pg 144 0 = some (.aload_n 0, 0, 0, 0) := by decide +kernel
theorem gz_144_1 : mz_pg 144 1 = some (.iconst 0, 0, 0, 0) := by decide +kernel
theorem gz_144_2 : mz_pg 144 2 = some (.putfield 1, 10, 0, 1217) := by decide +kernel
theorem gz_144_5 : mz_pg 144 5 = some (.aload_n 0, 0, 0, 0) := by decide +kernel
theorem gz_144_6 : mz_pg 144 6 = some (.lload_n 1, 0, 0, 0) := by decide +kernel
theorem gz_144_7 : mz_pg 144 7 = some (.invokevirtual 7, 1, 145, 1196) := by decide +kernel
theorem gz_144_10 : mz_pg 144 10 = some (.aload_n 0, 0, 0, 0) := by decide +kernel
theorem gz_144_11 : mz_pg 144 11 = some (.lload_n 3, 0, 0, 0) := by decide +kernel
theorem gz_144_12 : mz_pg 144 12 = some (.invokevirtual 7, 1, 145, 1196) := by decide +kernel
theorem gz_144_15 : mz_pg 144 15 = some (.aload_n 0, 0, 0, 0) := by decide +kernel
theorem gz_144_16 : mz_pg 144 16 = some (.lload 5, 0, 0, 0) := by decide +kernel
theorem gz_144_18 : mz_pg 144 18 = some (.invokevirtual 7, 1, 145, 1196) := by decide +kernel
theorem gz_144_21 : mz_pg 144 21 = some (.aload_n 0, 0, 0, 0) := by decide +kernel
theorem gz_144_22 : mz_pg 144 22 = some (.getfield 11, 10, 2, 1219) := by decide +kernel
theorem gz_144_25 : mz_pg 144 25 = some (.ireturn, 0, 0, 0) := by decide +kernel
theorem gz_145_0 : mz_pg 145 0 = some (.bipush 56, 0, 0, 0) := by decide +kernel
theorem gz_145_2 : mz_pg 145 2 = some (.istore_n 3, 0, 0, 0) := by decide +kernel
theorem gz_145_3 : mz_pg 145 3 = some (.iload_n 3, 0, 0, 0) := by decide +kernel
theorem gz_145_4 : mz_pg 145 4 = some (.ifCond .lt 71, 0, 0, 0) := by decide +kernel
theorem gz_145_7 : mz_pg 145 7 = some (.lload_n 1, 0, 0, 0) := by decide +kernel
theorem gz_145_8 : mz_pg 145 8 = some (.iload_n 3, 0, 0, 0) := by decide +kernel
theorem gz_145_9 : mz_pg 145 9 = some (.lshr, 0, 0, 0) := by decide +kernel
theorem gz_145_10 : mz_pg 145 10 = some (.l2i, 0, 0, 0) := by decide +kernel
theorem gz_145_11 : mz_pg 145 11 = some (.sipush 255, 0, 0, 0) := by decide +kernel
theorem gz_145_14 : mz_pg 145 14 = some (.iand, 0, 0, 0) := by decide +kernel
theorem gz_145_15 : mz_pg 145 15 = some (.istore 4, 0, 0, 0) := by decide +kernel
theorem gz_145_17 : mz_pg 145 17 = some (.iload 4, 0, 0, 0) := by decide +kernel
theorem gz_145_19 : mz_pg 145 19 = some (.bipush 10, 0, 0, 0) := by decide +kernel
theorem gz_145_21 : mz_pg 145 21 = some (.if_icmp .eq 17, 0, 0, 0) := by decide +kernel
theorem gz_145_24 : mz_pg 145 24 = some (.iload 4, 0, 0, 0) := by decide +kernel
theorem gz_145_26 : mz_pg 145 26 = some (.bipush 32, 0, 0, 0) := by decide +kernel
theorem gz_145_28 : mz_pg 145 28 = some (.if_icmp .lt 41, 0, 0, 0) := by decide +kernel
theorem gz_145_31 : mz_pg 145 31 = some (.iload 4, 0, 0, 0) := by decide +kernel
theorem gz_145_33 : mz_pg 145 33 = some (.bipush 126, 0, 0, 0) := by decide +kernel
theorem gz_145_35 : mz_pg 145 35 = some (.if_icmp .gt 34, 0, 0, 0) := by decide +kernel
theorem gz_145_38 : mz_pg 145 38 = some (.aload_n 0, 0, 0, 0) := by decide +kernel
theorem gz_145_39 : mz_pg 145 39 = some (.getfield 11, 10, 2, 1219) := by decide +kernel
theorem gz_145_42 : mz_pg 145 42 = some (.sipush 1000, 0, 0, 0) := by decide +kernel
theorem gz_145_45 : mz_pg 145 45 = some (.if_icmp .ge 24, 0, 0, 0) := by decide +kernel
theorem gz_145_48 : mz_pg 145 48 = some (.aload_n 0, 0, 0, 0) := by decide +kernel
theorem gz_145_49 : mz_pg 145 49 = some (.getfield 14, 10, 1, 1218) := by decide +kernel
theorem gz_145_52 : mz_pg 145 52 = some (.aload_n 0, 0, 0, 0) := by decide +kernel
theorem gz_145_53 : mz_pg 145 53 = some (.getfield 11, 10, 2, 1219) := by decide +kernel
theorem gz_145_56 : mz_pg 145 56 = some (.iload 4, 0, 0, 0) := by decide +kernel
theorem gz_145_58 : mz_pg 145 58 = some (.iastore, 0, 0, 0) := by decide +kernel
theorem gz_145_59 : mz_pg 145 59 = some (.aload_n 0, 0, 0, 0) := by decide +kernel
theorem gz_145_60 : mz_pg 145 60 = some (.dup, 0, 0, 0) := by decide +kernel
theorem gz_145_61 : mz_pg 145 61 = some (.getfield 11, 10, 2, 1219) := by decide +kernel
theorem gz_145_64 : mz_pg 145 64 = some (.iconst 1, 0, 0, 0) := by decide +kernel
theorem gz_145_65 : mz_pg 145 65 = some (.iadd, 0, 0, 0) := by decide +kernel
theorem gz_145_66 : mz_pg 145 66 = some (.putfield 11, 10, 2, 1219) := by decide +kernel
theorem gz_145_69 : mz_pg 145 69 = some (.iinc 3 (-8), 0, 0, 0) := by decide +kernel
theorem gz_145_72 : mz_pg 145 72 = some (.goto (-69), 0, 0, 0) := by decide +kernel
theorem gz_145_75 : mz_pg 145 75 = some (.return_, 0, 0, 0) := by decide +kernel
theorem gz_0_494 : mz_pg 0 494 = some (.aload_n 1, 0, 0, 0) := by decide +kernel
theorem gz_0_495 : mz_pg 0 495 = some (.aload_n 0, 0, 0, 0) := by decide +kernel
theorem gz_0_496 : mz_pg 0 496 = some (.iload 4, 0, 0, 0) := by decide +kernel
theorem gz_0_498 : mz_pg 0 498 = some (.iconst 1, 0, 0, 0) := by decide +kernel
theorem gz_0_499 : mz_pg 0 499 = some (.iadd, 0, 0, 0) := by decide +kernel
theorem gz_0_500 : mz_pg 0 500 = some (.iaload, 0, 0, 0) := by decide +kernel
theorem gz_0_501 : mz_pg 0 501 = some (.i2l, 0, 0, 0) := by decide +kernel
theorem gz_0_502 : mz_pg 0 502 = some (.bipush 32, 0, 0, 0) := by decide +kernel
theorem gz_0_504 : mz_pg 0 504 = some (.lshl, 0, 0, 0) := by decide +kernel
theorem gz_0_505 : mz_pg 0 505 = some (.aload_n 0, 0, 0, 0) := by decide +kernel
theorem gz_0_506 : mz_pg 0 506 = some (.iload 4, 0, 0, 0) := by decide +kernel
theorem gz_0_508 : mz_pg 0 508 = some (.iconst 2, 0, 0, 0) := by decide +kernel
theorem gz_0_509 : mz_pg 0 509 = some (.iadd, 0, 0, 0) := by decide +kernel
theorem gz_0_510 : mz_pg 0 510 = some (.iaload, 0, 0, 0) := by decide +kernel
theorem gz_0_511 : mz_pg 0 511 = some (.i2l, 0, 0, 0) := by decide +kernel
theorem gz_0_512 : mz_pg 0 512 = some (.ldc2_w 48, 4294967295, 0, 1763) := by decide +kernel
theorem gz_0_515 : mz_pg 0 515 = some (.land, 0, 0, 0) := by decide +kernel
theorem gz_0_516 : mz_pg 0 516 = some (.lor, 0, 0, 0) := by decide +kernel
theorem gz_0_517 : mz_pg 0 517 = some (.aload_n 0, 0, 0, 0) := by decide +kernel
theorem gz_0_518 : mz_pg 0 518 = some (.iload 4, 0, 0, 0) := by decide +kernel
theorem gz_0_520 : mz_pg 0 520 = some (.iconst 3, 0, 0, 0) := by decide +kernel
theorem gz_0_521 : mz_pg 0 521 = some (.iadd, 0, 0, 0) := by decide +kernel
theorem gz_0_522 : mz_pg 0 522 = some (.iaload, 0, 0, 0) := by decide +kernel
theorem gz_0_523 : mz_pg 0 523 = some (.i2l, 0, 0, 0) := by decide +kernel
theorem gz_0_524 : mz_pg 0 524 = some (.bipush 32, 0, 0, 0) := by decide +kernel
theorem gz_0_526 : mz_pg 0 526 = some (.lshl, 0, 0, 0) := by decide +kernel
theorem gz_0_527 : mz_pg 0 527 = some (.aload_n 0, 0, 0, 0) := by decide +kernel
theorem gz_0_528 : mz_pg 0 528 = some (.iload 4, 0, 0, 0) := by decide +kernel
theorem gz_0_530 : mz_pg 0 530 = some (.iconst 4, 0, 0, 0) := by decide +kernel
theorem gz_0_531 : mz_pg 0 531 = some (.iadd, 0, 0, 0) := by decide +kernel
theorem gz_0_532 : mz_pg 0 532 = some (.iaload, 0, 0, 0) := by decide +kernel
theorem gz_0_533 : mz_pg 0 533 = some (.i2l, 0, 0, 0) := by decide +kernel
theorem gz_0_534 : mz_pg 0 534 = some (.ldc2_w 48, 4294967295, 0, 1763) := by decide +kernel
theorem gz_0_537 : mz_pg 0 537 = some (.land, 0, 0, 0) := by decide +kernel
theorem gz_0_538 : mz_pg 0 538 = some (.lor, 0, 0, 0) := by decide +kernel
theorem gz_0_539 : mz_pg 0 539 = some (.aload_n 0, 0, 0, 0) := by decide +kernel
theorem gz_0_540 : mz_pg 0 540 = some (.iload 4, 0, 0, 0) := by decide +kernel
theorem gz_0_542 : mz_pg 0 542 = some (.iconst 5, 0, 0, 0) := by decide +kernel
theorem gz_0_543 : mz_pg 0 543 = some (.iadd, 0, 0, 0) := by decide +kernel
theorem gz_0_544 : mz_pg 0 544 = some (.iaload, 0, 0, 0) := by decide +kernel
theorem gz_0_545 : mz_pg 0 545 = some (.i2l, 0, 0, 0) := by decide +kernel
theorem gz_0_546 : mz_pg 0 546 = some (.bipush 32, 0, 0, 0) := by decide +kernel
theorem gz_0_548 : mz_pg 0 548 = some (.lshl, 0, 0, 0) := by decide +kernel
theorem gz_0_549 : mz_pg 0 549 = some (.aload_n 0, 0, 0, 0) := by decide +kernel
theorem gz_0_550 : mz_pg 0 550 = some (.iload 4, 0, 0, 0) := by decide +kernel
theorem gz_0_552 : mz_pg 0 552 = some (.bipush 6, 0, 0, 0) := by decide +kernel
theorem gz_0_554 : mz_pg 0 554 = some (.iadd, 0, 0, 0) := by decide +kernel
theorem gz_0_555 : mz_pg 0 555 = some (.iaload, 0, 0, 0) := by decide +kernel
theorem gz_0_556 : mz_pg 0 556 = some (.i2l, 0, 0, 0) := by decide +kernel
theorem gz_0_557 : mz_pg 0 557 = some (.ldc2_w 48, 4294967295, 0, 1763) := by decide +kernel
theorem gz_0_560 : mz_pg 0 560 = some (.land, 0, 0, 0) := by decide +kernel
theorem gz_0_561 : mz_pg 0 561 = some (.lor, 0, 0, 0) := by decide +kernel
theorem gz_0_562 : mz_pg 0 562 = some (.invokevirtual 50, 1, 32, 654) := by decide +kernel
theorem gz_0_565 : mz_pg 0 565 = some (.aload_n 2, 0, 0, 0) := by decide +kernel
theorem gz_0_566 : mz_pg 0 566 = some (.aload_n 0, 0, 0, 0) := by decide +kernel
theorem gz_0_567 : mz_pg 0 567 = some (.iload 4, 0, 0, 0) := by decide +kernel
theorem gz_0_569 : mz_pg 0 569 = some (.iconst 1, 0, 0, 0) := by decide +kernel
theorem gz_0_570 : mz_pg 0 570 = some (.iadd, 0, 0, 0) := by decide +kernel
theorem gz_0_571 : mz_pg 0 571 = some (.iaload, 0, 0, 0) := by decide +kernel
theorem gz_0_572 : mz_pg 0 572 = some (.i2l, 0, 0, 0) := by decide +kernel
theorem gz_0_573 : mz_pg 0 573 = some (.bipush 32, 0, 0, 0) := by decide +kernel
theorem gz_0_575 : mz_pg 0 575 = some (.lshl, 0, 0, 0) := by decide +kernel
theorem gz_0_576 : mz_pg 0 576 = some (.aload_n 0, 0, 0, 0) := by decide +kernel
theorem gz_0_577 : mz_pg 0 577 = some (.iload 4, 0, 0, 0) := by decide +kernel
theorem gz_0_579 : mz_pg 0 579 = some (.iconst 2, 0, 0, 0) := by decide +kernel
theorem gz_0_580 : mz_pg 0 580 = some (.iadd, 0, 0, 0) := by decide +kernel
theorem gz_0_581 : mz_pg 0 581 = some (.iaload, 0, 0, 0) := by decide +kernel
theorem gz_0_582 : mz_pg 0 582 = some (.i2l, 0, 0, 0) := by decide +kernel
theorem gz_0_583 : mz_pg 0 583 = some (.ldc2_w 48, 4294967295, 0, 1763) := by decide +kernel
theorem gz_0_586 : mz_pg 0 586 = some (.land, 0, 0, 0) := by decide +kernel
theorem gz_0_587 : mz_pg 0 587 = some (.lor, 0, 0, 0) := by decide +kernel
theorem gz_0_588 : mz_pg 0 588 = some (.aload_n 0, 0, 0, 0) := by decide +kernel
theorem gz_0_589 : mz_pg 0 589 = some (.iload 4, 0, 0, 0) := by decide +kernel
theorem gz_0_591 : mz_pg 0 591 = some (.iconst 3, 0, 0, 0) := by decide +kernel
theorem gz_0_592 : mz_pg 0 592 = some (.iadd, 0, 0, 0) := by decide +kernel
theorem gz_0_593 : mz_pg 0 593 = some (.iaload, 0, 0, 0) := by decide +kernel
theorem gz_0_594 : mz_pg 0 594 = some (.i2l, 0, 0, 0) := by decide +kernel
theorem gz_0_595 : mz_pg 0 595 = some (.bipush 32, 0, 0, 0) := by decide +kernel
theorem gz_0_597 : mz_pg 0 597 = some (.lshl, 0, 0, 0) := by decide +kernel
theorem gz_0_598 : mz_pg 0 598 = some (.aload_n 0, 0, 0, 0) := by decide +kernel
theorem gz_0_599 : mz_pg 0 599 = some (.iload 4, 0, 0, 0) := by decide +kernel
theorem gz_0_601 : mz_pg 0 601 = some (.iconst 4, 0, 0, 0) := by decide +kernel
theorem gz_0_602 : mz_pg 0 602 = some (.iadd, 0, 0, 0) := by decide +kernel
theorem gz_0_603 : mz_pg 0 603 = some (.iaload, 0, 0, 0) := by decide +kernel
theorem gz_0_604 : mz_pg 0 604 = some (.i2l, 0, 0, 0) := by decide +kernel
theorem gz_0_605 : mz_pg 0 605 = some (.ldc2_w 48, 4294967295, 0, 1763) := by decide +kernel
theorem gz_0_608 : mz_pg 0 608 = some (.land, 0, 0, 0) := by decide +kernel
theorem gz_0_609 : mz_pg 0 609 = some (.lor, 0, 0, 0) := by decide +kernel
theorem gz_0_610 : mz_pg 0 610 = some (.aload_n 0, 0, 0, 0) := by decide +kernel
theorem gz_0_611 : mz_pg 0 611 = some (.iload 4, 0, 0, 0) := by decide +kernel
theorem gz_0_613 : mz_pg 0 613 = some (.iconst 5, 0, 0, 0) := by decide +kernel
theorem gz_0_614 : mz_pg 0 614 = some (.iadd, 0, 0, 0) := by decide +kernel
theorem gz_0_615 : mz_pg 0 615 = some (.iaload, 0, 0, 0) := by decide +kernel
theorem gz_0_616 : mz_pg 0 616 = some (.i2l, 0, 0, 0) := by decide +kernel
theorem gz_0_617 : mz_pg 0 617 = some (.bipush 32, 0, 0, 0) := by decide +kernel
theorem gz_0_619 : mz_pg 0 619 = some (.lshl, 0, 0, 0) := by decide +kernel
theorem gz_0_620 : mz_pg 0 620 = some (.aload_n 0, 0, 0, 0) := by decide +kernel
theorem gz_0_621 : mz_pg 0 621 = some (.iload 4, 0, 0, 0) := by decide +kernel
theorem gz_0_623 : mz_pg 0 623 = some (.bipush 6, 0, 0, 0) := by decide +kernel
theorem gz_0_625 : mz_pg 0 625 = some (.iadd, 0, 0, 0) := by decide +kernel
theorem gz_0_626 : mz_pg 0 626 = some (.iaload, 0, 0, 0) := by decide +kernel
theorem gz_0_627 : mz_pg 0 627 = some (.i2l, 0, 0, 0) := by decide +kernel
theorem gz_0_628 : mz_pg 0 628 = some (.ldc2_w 48, 4294967295, 0, 1763) := by decide +kernel
theorem gz_0_631 : mz_pg 0 631 = some (.land, 0, 0, 0) := by decide +kernel
theorem gz_0_632 : mz_pg 0 632 = some (.lor, 0, 0, 0) := by decide +kernel
theorem gz_0_633 : mz_pg 0 633 = some (.invokevirtual 54, 1, 144, 1192) := by decide +kernel
theorem gz_0_636 : mz_pg 0 636 = some (.if_icmp .eq 1270, 0, 0, 0) := by decide +kernel
theorem gz_0_639 : mz_pg 0 639 = some (.iconst 0, 0, 0, 0) := by decide +kernel
theorem gz_0_640 : mz_pg 0 640 = some (.ireturn, 0, 0, 0) := by decide +kernel
theorem gz_0_1906 : mz_pg 0 1906 = some (.iinc 4 8, 0, 0, 0) := by decide +kernel
theorem gz_0_1909 : mz_pg 0 1909 = some (.goto (-1886), 0, 0, 0) := by decide +kernel
theorem gz_0_1912 : mz_pg 0 1912 = some (.iconst 1, 0, 0, 0) := by decide +kernel
theorem gz_0_1913 : mz_pg 0 1913 = some (.ireturn, 0, 0, 0) := by decide +kernel
theorem gz_0_23 : mz_pg 0 23 = some (.iload 4, 0, 0, 0) := by decide +kernel
theorem gz_0_25 : mz_pg 0 25 = some (.aload_n 0, 0, 0, 0) := by decide +kernel
theorem gz_0_26 : mz_pg 0 26 = some (.arraylength, 0, 0, 0) := by decide +kernel
theorem gz_0_27 : mz_pg 0 27 = some (.bipush 8, 0, 0, 0) := by decide +kernel
theorem gz_0_29 : mz_pg 0 29 = some (.isub, 0, 0, 0) := by decide +kernel
theorem gz_0_30 : mz_pg 0 30 = some (.if_icmp .gt 1882, 0, 0, 0) := by decide +kernel
def fd_K (j : Nat) : Int32 := Int32.ofInt (8 * (j : Int) - 8)
def fd_c (V : Int64) (K : Int32) : Int32 := (V >>> (K.toInt64 &&& 63)).toInt32 &&& (Int16.ofInt 255).toInt32
/-- is the sign taken -/
def fd_p (c : Int32) : Bool := mx_cmp .eq c (Int8.ofInt 10).toInt32 || (!mx_cmp .lt c (Int8.ofInt 32).toInt32 && !mx_cmp .gt c (Int8.ofInt 126).toInt32)
def fd_n (V : Int64) : Nat → Nat
  | 0 => 0
  | j + 1 => (if fd_p (fd_c V (fd_K (j + 1))) then 1 else 0) + fd_n V j
theorem fd_n_le (V : Int64) : ∀ j, fd_n V j ≤ j
  | 0 => Nat.le_refl _
  | j + 1 => by
    have := fd_n_le V j
    unfold fd_n
    split <;> omega
theorem fd_K8 : fd_K 8 = (Int8.ofInt 56).toInt32 := by decide +kernel
theorem fd_Kn : ∀ j, j < 8 → fd_K (j + 1) + Int32.ofInt (-8) = fd_K j := by decide +kernel
theorem fd_Kp : ∀ j, j < 8 → mx_cmp .lt (fd_K (j + 1)) 0 = false := by decide +kernel
theorem fd_K0 : mx_cmp .lt (fd_K 0) 0 = true := by decide +kernel
theorem fd_lt {n : Nat} (h : n < 1000) : mx_cmp .ge (nI n) (Int16.ofInt 1000).toInt32 = false := by
  have e : (Int16.ofInt 1000).toInt32 = nI 1000 := by decide +kernel
  rw [e]
  simp only [mx_cmp, Bool.not_eq_false', decide_eq_true_eq]
  exact nI_lt h (by decide)
theorem fd_ix {n : Nat} (h : n < 1000) : mx_idx 1000 (nI n) = some n := by
  unfold mx_idx
  rw [if_neg (nI_in h (by decide)), nI_clamp (by omega)]
/-- what a turn leaves alone -/
def fd_F (h h' : mx_H) (k1 k2 : Nat) : Prop := h'.length = h.length ∧ mx_sz h' = mx_sz h ∧ ∀ k : Nat, k ≠ k1 → k ≠ k2 → h'[k]? = h[k]?
theorem fd_F.rf {h : mx_H} {k1 k2 : Nat} : fd_F h h k1 k2 := ⟨rfl, rfl, fun _ _ _ => rfl⟩
theorem fd_F.tr {h h1 h2 : mx_H} {k1 k2 : Nat} (a : fd_F h h1 k1 k2) (b : fd_F h1 h2 k1 k2) : fd_F h h2 k1 k2 := ⟨b.1.trans a.1, b.2.1.trans a.2.1, fun k q1 q2 => (b.2.2 k q1 q2).trans (a.2.2 k q1 q2)⟩
/-- the reader, with n signs -/
def fd_T (h : mx_H) (kr kt n : Nat) : Prop := ∃ (fs : List Value) (d0 : Value) (us : List (Nat × Value)), h[kr]? = some (.inr (5, fs)) ∧ fs.length = 10 ∧ fs[3]? = some (.ref kt) ∧ fs[4]? = some (.int (nI n)) ∧ h[kt]? = some (.inl (3, 1000, d0, us))
/-- the reference, with n signs -/
def fd_U (h : mx_H) (km kt n : Nat) : Prop := ∃ (fs : List Value) (d0 : Value) (us : List (Nat × Value)), h[km]? = some (.inr (10, fs)) ∧ fs.length = 67 ∧ fs[1]? = some (.ref kt) ∧ fs[2]? = some (.int (nI n)) ∧ h[kt]? = some (.inl (0, 1000, d0, us))
theorem fd_T.apart {h : mx_H} {kr kt n : Nat} (hT : fd_T h kr kt n) : kr ≠ kt := by
  obtain ⟨fs, d0, us, h1, -, -, -, h5⟩ := hT
  intro e
  rw [e, h5] at h1
  cases h1
theorem fd_U.apart {h : mx_H} {kr kt n : Nat} (hT : fd_U h kr kt n) : kr ≠ kt := by
  obtain ⟨fs, d0, us, h1, -, -, -, h5⟩ := hT
  intro e
  rw [e, h5] at h1
  cases h1
theorem fd_len {h : mx_H} {k : Nat} {c : mx_C} (hk : h[k]? = some c) : k < h.length := (List.getElem?_eq_some_iff.mp hk).1
section
variable {l : Launch} {rho : Nat → Int32} {d : Nat}
set_option maxHeartbeats 1000000 in
/-- the end of a turn -/
theorem fd_a_e {j : Nat} (hj : j < 8) {h : mx_H} {ls : mx_L} {pc2 : Nat} {ls2 : mx_L} {st2 : List Value} {h2 : mx_H} {mc ms : Nat} (l3 : mx_look ls 3 = some (.int (fd_K (j + 1)))) (k : mx_Ok l mz_P mz_G mz_tb rho d 33 3 (mx_put1 ls 3 (.int (fd_K j))) [] h pc2 ls2 st2 h2 mc ms) : mx_Ok l mz_P mz_G mz_tb rho d 33 67 ls [] h pc2 ls2 st2 h2 mc ms := by
  refine ok_iinc gz_33_67 l3 (by decide +kernel) ?_
  rw [fd_Kn j hj]
  exact ok_goto gz_33_70 (by decide +kernel) k
set_option maxHeartbeats 1000000 in
/-- a sign is taken -/
theorem fd_a_t {h : mx_H} {kr kt n : Nat} {ls : mx_L} {c : Int32} (hT : fd_T h kr kt n) (hn : n < 1000) (l0 : mx_look ls 0 = some (.ref kr)) (l4 : mx_look ls 4 = some (.int c)) : ∃ h', fd_T h' kr kt (n + 1) ∧ fd_F h h' kr kt ∧ ∀ {pc2 : Nat} {ls2 : mx_L} {st2 : List Value} {h2 : mx_H} {mc ms : Nat}, mx_Ok l mz_P mz_G mz_tb rho d 33 67 ls [] h' pc2 ls2 st2 h2 mc ms → mx_Ok l mz_P mz_G mz_tb rho d 33 38 ls [] h pc2 ls2 st2 h2 mc ms := by
  have hap := hT.apart
  obtain ⟨fs, d0, us, t1, t2, t3, t4, t5⟩ := hT
  have hl1 := fd_len t1
  have hl2 := fd_len t5
  refine ⟨(h.set kr (.inr (5, fs.set 4 (.int (nI n + Int32.ofInt 1))))).set kt (.inl (3, 1000, d0, mx_up d0 us n (.int c.toInt8.toInt32))), ?_, ?_, fun k => ?_⟩
  · refine ⟨fs.set 4 (.int (nI n + Int32.ofInt 1)), d0, mx_up d0 us n (.int c.toInt8.toInt32), ?_, by simp [t2], ?_, ?_, ?_⟩
    · rw [List.getElem?_set_ne (Ne.symm hap), List.getElem?_set_self hl1]
    · rw [List.getElem?_set_ne (by decide)]; exact t3
    · rw [List.getElem?_set_self (by omega), ← nI_1 n]; rfl
    · rw [List.getElem?_set_self (by simpa using hl2)]
  · refine ⟨by simp, ?_, fun k q1 q2 => by rw [List.getElem?_set_ne (Ne.symm q2), List.getElem?_set_ne (Ne.symm q1)]⟩
    have e1 : mx_sz (h.set kr (.inr (5, fs.set 4 (.int (nI n + Int32.ofInt 1))))) = mx_sz h := mx_sz_set t1 (by simp [mx_cz])
    rw [mx_sz_set (c := .inl (3, 1000, d0, us)) (c' := .inl (3, 1000, d0, mx_up d0 us n (.int c.toInt8.toInt32))) (by rw [List.getElem?_set_ne hap]; exact t5) rfl, e1]
  · refine ok_aload_n gz_33_38 l0 rfl ?_
    refine ok_get gz_33_39 t1 t4 ?_
    refine ok_s1 (ls' := ls) (st' := [.int (Int16.ofInt 1000).toInt32, .int (nI n)]) gz_33_42 rfl ?_
    refine ok_icF gz_33_45 (by decide +kernel) (fd_lt hn) ?_
    refine ok_aload_n gz_33_48 l0 rfl ?_
    refine ok_get gz_33_49 t1 t3 ?_
    refine ok_aload_n gz_33_52 l0 rfl ?_
    refine ok_s1 (ls' := ls) (st' := [.ref kr, .ref kr, .ref kt]) gz_33_53 rfl ?_
    refine ok_get gz_33_54 t1 t4 ?_
    refine ok_s1 (ls' := ls) (st' := [.int (nI n), .ref kr, .int (nI n), .ref kt]) gz_33_57 rfl ?_
    refine ok_s1 (ls' := ls) (st' := [.int (Int32.ofInt 1), .int (nI n), .ref kr, .int (nI n), .ref kt]) gz_33_58 rfl ?_
    refine ok_s1 (ls' := ls) (st' := [.int (nI n + Int32.ofInt 1), .ref kr, .int (nI n), .ref kt]) gz_33_59 rfl ?_
    refine ok_put gz_33_60 t1 (by omega) rfl ?_
    refine ok_iload gz_33_63 l4 rfl ?_
    refine ok_s1 (ls' := ls) (st' := [.int c.toInt8.toInt32, .int (nI n), .ref kt]) gz_33_65 rfl ?_
    exact ok_bst gz_33_66 (n := 1000) (d0 := d0) (us := us) (by rw [List.getElem?_set_ne hap]; exact t5) (fd_ix hn) (by simp) k
set_option maxHeartbeats 1000000 in
/-- one turn -/
theorem fd_a_i {V : Int64} {j : Nat} (hj : j < 8) {h : mx_H} {kr kt n : Nat} {ls : mx_L} (hT : fd_T h kr kt n) (hn : n < 1000) (l0 : mx_look ls 0 = some (.ref kr)) (l1 : mx_look ls 1 = some (.long V)) (l3 : mx_look ls 3 = some (.int (fd_K (j + 1)))) :
    ∃ (h' : mx_H) (ls' : mx_L), fd_T h' kr kt (n + if fd_p (fd_c V (fd_K (j + 1))) then 1 else 0) ∧ fd_F h h' kr kt ∧ mx_look ls' 0 = some (.ref kr) ∧ mx_look ls' 1 = some (.long V) ∧ mx_look ls' 3 = some (.int (fd_K j)) ∧ ∀ {pc2 : Nat} {ls2 : mx_L} {st2 : List Value} {h2 : mx_H} {mc ms : Nat}, mx_Ok l mz_P mz_G mz_tb rho d 33 3 ls' [] h' pc2 ls2 st2 h2 mc ms → mx_Ok l mz_P mz_G mz_tb rho d 33 3 ls [] h pc2 ls2 st2 h2 mc ms := by
  obtain ⟨c, hc⟩ : ∃ c, c = fd_c V (fd_K (j + 1)) := ⟨_, rfl⟩
  rw [← hc]
  have m0 : mx_look (mx_put1 ls 4 (.int c)) 0 = some (.ref kr) := mx_look_put (by decide) (fun q => by cases q) l0
  have m1 : mx_look (mx_put1 ls 4 (.int c)) 1 = some (.long V) := mx_look_put (by decide) (fun _ => by decide) l1
  have m3 : mx_look (mx_put1 ls 4 (.int c)) 3 = some (.int (fd_K (j + 1))) := mx_look_put (by decide) (fun q => by cases q) l3
  have m4 : mx_look (mx_put1 ls 4 (.int c)) 4 = some (.int c) := mx_look_self
  have front : ∀ {pc2 : Nat} {ls2 : mx_L} {st2 : List Value} {h2 : mx_H} {mc ms : Nat}, mx_Ok l mz_P mz_G mz_tb rho d 33 17 (mx_put1 ls 4 (.int c)) [] h pc2 ls2 st2 h2 mc ms → mx_Ok l mz_P mz_G mz_tb rho d 33 3 ls [] h pc2 ls2 st2 h2 mc ms := by
    intro pc2 ls2 st2 h2 mc ms k
    refine ok_iload_n gz_33_3 l3 rfl ?_
    refine ok_ifF gz_33_4 (by decide +kernel) (fd_Kp j hj) ?_
    refine ok_lload_n gz_33_7 l1 rfl ?_
    refine ok_iload_n gz_33_8 l3 rfl ?_
    refine ok_s1 (ls' := ls) (st' := [.long (V >>> ((fd_K (j + 1)).toInt64 &&& 63))]) gz_33_9 rfl ?_
    refine ok_s1 (ls' := ls) (st' := [.int (V >>> ((fd_K (j + 1)).toInt64 &&& 63)).toInt32]) gz_33_10 rfl ?_
    refine ok_s1 (ls' := ls) (st' := [.int (Int16.ofInt 255).toInt32, .int (V >>> ((fd_K (j + 1)).toInt64 &&& 63)).toInt32]) gz_33_11 rfl ?_
    refine ok_s1 (ls' := ls) (st' := [.int (fd_c V (fd_K (j + 1)))]) gz_33_14 rfl ?_
    rw [← hc]
    exact ok_istore gz_33_15 (by decide +kernel) k
  have skip : fd_p c = false → ∃ (h' : mx_H) (ls' : mx_L), fd_T h' kr kt (n + 0) ∧ fd_F h h' kr kt ∧ mx_look ls' 0 = some (.ref kr) ∧ mx_look ls' 1 = some (.long V) ∧ mx_look ls' 3 = some (.int (fd_K j)) ∧ ∀ {pc2 : Nat} {ls2 : mx_L} {st2 : List Value} {h2 : mx_H} {mc ms : Nat}, mx_Ok l mz_P mz_G mz_tb rho d 33 3 ls' [] h' pc2 ls2 st2 h2 mc ms → mx_Ok l mz_P mz_G mz_tb rho d 33 3 ls [] h pc2 ls2 st2 h2 mc ms := by
    intro hp
    refine ⟨h, mx_put1 (mx_put1 ls 4 (.int c)) 3 (.int (fd_K j)), hT, fd_F.rf, mx_look_put (by decide) (fun q => by cases q) m0, mx_look_put (by decide) (fun _ => by decide) m1, mx_look_self, fun k => front ?_⟩
    simp only [fd_p, Bool.or_eq_false_iff, Bool.and_eq_false_iff, Bool.not_eq_false'] at hp
    refine ok_iload gz_33_17 m4 rfl ?_
    refine ok_s1 (ls' := mx_put1 ls 4 (.int c)) (st' := [.int (Int8.ofInt 10).toInt32, .int c]) gz_33_19 rfl ?_
    refine ok_icF gz_33_21 (by decide +kernel) hp.1 ?_
    refine ok_iload gz_33_24 m4 rfl ?_
    refine ok_s1 (ls' := mx_put1 ls 4 (.int c)) (st' := [.int (Int8.ofInt 32).toInt32, .int c]) gz_33_26 rfl ?_
    cases h32 : mx_cmp .lt c (Int8.ofInt 32).toInt32 with
    | true => exact ok_icT gz_33_28 (by decide +kernel) h32 (fd_a_e hj m3 k)
    | false =>
      refine ok_icF gz_33_28 (by decide +kernel) h32 ?_
      refine ok_iload gz_33_31 m4 rfl ?_
      refine ok_s1 (ls' := mx_put1 ls 4 (.int c)) (st' := [.int (Int8.ofInt 126).toInt32, .int c]) gz_33_33 rfl ?_
      refine ok_icT gz_33_35 (by decide +kernel) ?_ (fd_a_e hj m3 k)
      rcases hp.2 with q | q
      · rw [h32] at q; cases q
      · exact q
  have take : fd_p c = true → ∃ (h' : mx_H) (ls' : mx_L), fd_T h' kr kt (n + 1) ∧ fd_F h h' kr kt ∧ mx_look ls' 0 = some (.ref kr) ∧ mx_look ls' 1 = some (.long V) ∧ mx_look ls' 3 = some (.int (fd_K j)) ∧ ∀ {pc2 : Nat} {ls2 : mx_L} {st2 : List Value} {h2 : mx_H} {mc ms : Nat}, mx_Ok l mz_P mz_G mz_tb rho d 33 3 ls' [] h' pc2 ls2 st2 h2 mc ms → mx_Ok l mz_P mz_G mz_tb rho d 33 3 ls [] h pc2 ls2 st2 h2 mc ms := by
    intro hp
    obtain ⟨h', g1, g2, g3⟩ := fd_a_t (l := l) (rho := rho) (d := d) hT hn m0 m4
    refine ⟨h', mx_put1 (mx_put1 ls 4 (.int c)) 3 (.int (fd_K j)), g1, g2, mx_look_put (by decide) (fun q => by cases q) m0, mx_look_put (by decide) (fun _ => by decide) m1, mx_look_self, fun k => front ?_⟩
    have k38 := g3 (fd_a_e hj m3 k)
    refine ok_iload gz_33_17 m4 rfl ?_
    refine ok_s1 (ls' := mx_put1 ls 4 (.int c)) (st' := [.int (Int8.ofInt 10).toInt32, .int c]) gz_33_19 rfl ?_
    cases h10 : mx_cmp .eq c (Int8.ofInt 10).toInt32 with
    | true => exact ok_icT gz_33_21 (by decide +kernel) h10 k38
    | false =>
      simp only [fd_p, h10, Bool.false_or, Bool.and_eq_true, Bool.not_eq_true'] at hp
      refine ok_icF gz_33_21 (by decide +kernel) h10 ?_
      refine ok_iload gz_33_24 m4 rfl ?_
      refine ok_s1 (ls' := mx_put1 ls 4 (.int c)) (st' := [.int (Int8.ofInt 32).toInt32, .int c]) gz_33_26 rfl ?_
      refine ok_icF gz_33_28 (by decide +kernel) hp.1 ?_
      refine ok_iload gz_33_31 m4 rfl ?_
      refine ok_s1 (ls' := mx_put1 ls 4 (.int c)) (st' := [.int (Int8.ofInt 126).toInt32, .int c]) gz_33_33 rfl ?_
      exact ok_icF gz_33_35 (by decide +kernel) hp.2 k38
  cases hp : fd_p c with
  | false => exact skip hp
  | true => exact take hp
/-- all turns -/
theorem fd_a_l {V : Int64} : ∀ (j : Nat), j ≤ 8 → ∀ {h : mx_H} {kr kt n : Nat} {ls : mx_L}, fd_T h kr kt n → n + j ≤ 1000 → mx_look ls 0 = some (.ref kr) → mx_look ls 1 = some (.long V) → mx_look ls 3 = some (.int (fd_K j)) →
    ∃ (h' : mx_H) (ls' : mx_L), fd_T h' kr kt (n + fd_n V j) ∧ fd_F h h' kr kt ∧ mx_Ok l mz_P mz_G mz_tb rho d 33 3 ls [] h 73 ls' [] h' 0 0
  | 0, _, h, kr, kt, n, ls, hT, _, l0, l1, l3 => by
    refine ⟨h, ls, hT, fd_F.rf, ?_⟩
    refine ok_iload_n gz_33_3 l3 rfl ?_
    exact ok_ifT gz_33_4 (by decide +kernel) fd_K0 mx_Ok.rf
  | j + 1, hj, h, kr, kt, n, ls, hT, hn, l0, l1, l3 => by
    obtain ⟨h1, ls1, g1, g2, g3, g4, g5, g6⟩ := fd_a_i (l := l) (rho := rho) (d := d) (by omega) hT (by omega) l0 l1 l3
    obtain ⟨h2, ls2, f1, f2, f3⟩ := fd_a_l (V := V) j (by omega) g1 (by split <;> omega) g3 g4 g5
    refine ⟨h2, ls2, ?_, g2.tr f2, g6 f3⟩
    rw [Nat.add_assoc] at f1
    exact f1
/-- the method -/
theorem fd_a_m {V : Int64} {h : mx_H} {kr kt n : Nat} (hT : fd_T h kr kt n) (hn : n + 8 ≤ 1000) : ∃ (h' : mx_H) (ls' : mx_L), fd_T h' kr kt (n + fd_n V 8) ∧ fd_F h h' kr kt ∧ mx_Ok l mz_P mz_G mz_tb rho d 33 0 (mx_args 0 [.ref kr, .long V]) [] h 73 ls' [] h' 0 0 := by
  obtain ⟨h', ls', g1, g2, g3⟩ := fd_a_l (l := l) (rho := rho) (d := d) (V := V) (ls := mx_put1 (mx_args 0 [.ref kr, .long V]) 3 (.int (fd_K 8))) 8 (Nat.le_refl _) hT hn rfl rfl rfl
  refine ⟨h', ls', g1, g2, ?_⟩
  refine ok_s1 (ls' := mx_args 0 [.ref kr, .long V]) (st' := [.int (Int8.ofInt 56).toInt32]) gz_33_0 rfl ?_
  rw [← fd_K8]
  exact ok_istore_n gz_33_2 (by decide +kernel) g3
set_option maxHeartbeats 1000000 in
/-- the end of a turn -/
theorem fd_b_e {j : Nat} (hj : j < 8) {h : mx_H} {ls : mx_L} {pc2 : Nat} {ls2 : mx_L} {st2 : List Value} {h2 : mx_H} {mc ms : Nat} (l3 : mx_look ls 3 = some (.int (fd_K (j + 1)))) (k : mx_Ok l mz_P mz_G mz_tb rho d 145 3 (mx_put1 ls 3 (.int (fd_K j))) [] h pc2 ls2 st2 h2 mc ms) : mx_Ok l mz_P mz_G mz_tb rho d 145 69 ls [] h pc2 ls2 st2 h2 mc ms := by
  refine ok_iinc gz_145_69 l3 (by decide +kernel) ?_
  rw [fd_Kn j hj]
  exact ok_goto gz_145_72 (by decide +kernel) k
set_option maxHeartbeats 1000000 in
/-- a sign is taken -/
theorem fd_b_t {h : mx_H} {kr kt n : Nat} {ls : mx_L} {c : Int32} (hT : fd_U h kr kt n) (hn : n < 1000) (l0 : mx_look ls 0 = some (.ref kr)) (l4 : mx_look ls 4 = some (.int c)) : ∃ h', fd_U h' kr kt (n + 1) ∧ fd_F h h' kr kt ∧ ∀ {pc2 : Nat} {ls2 : mx_L} {st2 : List Value} {h2 : mx_H} {mc ms : Nat}, mx_Ok l mz_P mz_G mz_tb rho d 145 69 ls [] h' pc2 ls2 st2 h2 mc ms → mx_Ok l mz_P mz_G mz_tb rho d 145 38 ls [] h pc2 ls2 st2 h2 mc ms := by
  have hap := hT.apart
  obtain ⟨fs, d0, us, t1, t2, t3, t4, t5⟩ := hT
  have hl1 := fd_len t1
  have hl2 := fd_len t5
  refine ⟨(h.set kt (.inl (0, 1000, d0, mx_up d0 us n (.int c)))).set kr (.inr (10, fs.set 2 (.int (nI n + Int32.ofInt 1)))), ?_, ?_, fun k => ?_⟩
  · refine ⟨fs.set 2 (.int (nI n + Int32.ofInt 1)), d0, mx_up d0 us n (.int c), ?_, by simp [t2], ?_, ?_, ?_⟩
    · rw [List.getElem?_set_self (by simpa using hl1)]
    · rw [List.getElem?_set_ne (by decide)]; exact t3
    · rw [List.getElem?_set_self (by omega), ← nI_1 n]; rfl
    · rw [List.getElem?_set_ne hap, List.getElem?_set_self hl2]
  · refine ⟨by simp, ?_, fun k q1 q2 => by rw [List.getElem?_set_ne (Ne.symm q1), List.getElem?_set_ne (Ne.symm q2)]⟩
    have e1 : mx_sz (h.set kt (.inl (0, 1000, d0, mx_up d0 us n (.int c)))) = mx_sz h := mx_sz_set t5 rfl
    rw [mx_sz_set (c := .inr (10, fs)) (by rw [List.getElem?_set_ne (Ne.symm hap)]; exact t1) (by simp [mx_cz]), e1]
  · refine ok_aload_n gz_145_38 l0 rfl ?_
    refine ok_get gz_145_39 t1 t4 ?_
    refine ok_s1 (ls' := ls) (st' := [.int (Int16.ofInt 1000).toInt32, .int (nI n)]) gz_145_42 rfl ?_
    refine ok_icF gz_145_45 (by decide +kernel) (fd_lt hn) ?_
    refine ok_aload_n gz_145_48 l0 rfl ?_
    refine ok_get gz_145_49 t1 t3 ?_
    refine ok_aload_n gz_145_52 l0 rfl ?_
    refine ok_get gz_145_53 t1 t4 ?_
    refine ok_iload gz_145_56 l4 rfl ?_
    refine ok_ist gz_145_58 t5 (fd_ix hn) rfl ?_
    have t1' : (h.set kt (.inl (0, 1000, d0, mx_up d0 us n (.int c))))[kr]? = some (.inr (10, fs)) := by rw [List.getElem?_set_ne (Ne.symm hap)]; exact t1
    refine ok_aload_n gz_145_59 l0 rfl ?_
    refine ok_s1 (ls' := ls) (st' := [.ref kr, .ref kr]) gz_145_60 rfl ?_
    refine ok_get gz_145_61 t1' t4 ?_
    refine ok_s1 (ls' := ls) (st' := [.int (Int32.ofInt 1), .int (nI n), .ref kr]) gz_145_64 rfl ?_
    refine ok_s1 (ls' := ls) (st' := [.int (nI n + Int32.ofInt 1), .ref kr]) gz_145_65 rfl ?_
    exact ok_put gz_145_66 t1' (by omega) rfl k
set_option maxHeartbeats 1000000 in
/-- one turn -/
theorem fd_b_i {V : Int64} {j : Nat} (hj : j < 8) {h : mx_H} {kr kt n : Nat} {ls : mx_L} (hT : fd_U h kr kt n) (hn : n < 1000) (l0 : mx_look ls 0 = some (.ref kr)) (l1 : mx_look ls 1 = some (.long V)) (l3 : mx_look ls 3 = some (.int (fd_K (j + 1)))) :
    ∃ (h' : mx_H) (ls' : mx_L), fd_U h' kr kt (n + if fd_p (fd_c V (fd_K (j + 1))) then 1 else 0) ∧ fd_F h h' kr kt ∧ mx_look ls' 0 = some (.ref kr) ∧ mx_look ls' 1 = some (.long V) ∧ mx_look ls' 3 = some (.int (fd_K j)) ∧ ∀ {pc2 : Nat} {ls2 : mx_L} {st2 : List Value} {h2 : mx_H} {mc ms : Nat}, mx_Ok l mz_P mz_G mz_tb rho d 145 3 ls' [] h' pc2 ls2 st2 h2 mc ms → mx_Ok l mz_P mz_G mz_tb rho d 145 3 ls [] h pc2 ls2 st2 h2 mc ms := by
  obtain ⟨c, hc⟩ : ∃ c, c = fd_c V (fd_K (j + 1)) := ⟨_, rfl⟩
  rw [← hc]
  have m0 : mx_look (mx_put1 ls 4 (.int c)) 0 = some (.ref kr) := mx_look_put (by decide) (fun q => by cases q) l0
  have m1 : mx_look (mx_put1 ls 4 (.int c)) 1 = some (.long V) := mx_look_put (by decide) (fun _ => by decide) l1
  have m3 : mx_look (mx_put1 ls 4 (.int c)) 3 = some (.int (fd_K (j + 1))) := mx_look_put (by decide) (fun q => by cases q) l3
  have m4 : mx_look (mx_put1 ls 4 (.int c)) 4 = some (.int c) := mx_look_self
  have front : ∀ {pc2 : Nat} {ls2 : mx_L} {st2 : List Value} {h2 : mx_H} {mc ms : Nat}, mx_Ok l mz_P mz_G mz_tb rho d 145 17 (mx_put1 ls 4 (.int c)) [] h pc2 ls2 st2 h2 mc ms → mx_Ok l mz_P mz_G mz_tb rho d 145 3 ls [] h pc2 ls2 st2 h2 mc ms := by
    intro pc2 ls2 st2 h2 mc ms k
    refine ok_iload_n gz_145_3 l3 rfl ?_
    refine ok_ifF gz_145_4 (by decide +kernel) (fd_Kp j hj) ?_
    refine ok_lload_n gz_145_7 l1 rfl ?_
    refine ok_iload_n gz_145_8 l3 rfl ?_
    refine ok_s1 (ls' := ls) (st' := [.long (V >>> ((fd_K (j + 1)).toInt64 &&& 63))]) gz_145_9 rfl ?_
    refine ok_s1 (ls' := ls) (st' := [.int (V >>> ((fd_K (j + 1)).toInt64 &&& 63)).toInt32]) gz_145_10 rfl ?_
    refine ok_s1 (ls' := ls) (st' := [.int (Int16.ofInt 255).toInt32, .int (V >>> ((fd_K (j + 1)).toInt64 &&& 63)).toInt32]) gz_145_11 rfl ?_
    refine ok_s1 (ls' := ls) (st' := [.int (fd_c V (fd_K (j + 1)))]) gz_145_14 rfl ?_
    rw [← hc]
    exact ok_istore gz_145_15 (by decide +kernel) k
  have skip : fd_p c = false → ∃ (h' : mx_H) (ls' : mx_L), fd_U h' kr kt (n + 0) ∧ fd_F h h' kr kt ∧ mx_look ls' 0 = some (.ref kr) ∧ mx_look ls' 1 = some (.long V) ∧ mx_look ls' 3 = some (.int (fd_K j)) ∧ ∀ {pc2 : Nat} {ls2 : mx_L} {st2 : List Value} {h2 : mx_H} {mc ms : Nat}, mx_Ok l mz_P mz_G mz_tb rho d 145 3 ls' [] h' pc2 ls2 st2 h2 mc ms → mx_Ok l mz_P mz_G mz_tb rho d 145 3 ls [] h pc2 ls2 st2 h2 mc ms := by
    intro hp
    refine ⟨h, mx_put1 (mx_put1 ls 4 (.int c)) 3 (.int (fd_K j)), hT, fd_F.rf, mx_look_put (by decide) (fun q => by cases q) m0, mx_look_put (by decide) (fun _ => by decide) m1, mx_look_self, fun k => front ?_⟩
    simp only [fd_p, Bool.or_eq_false_iff, Bool.and_eq_false_iff, Bool.not_eq_false'] at hp
    refine ok_iload gz_145_17 m4 rfl ?_
    refine ok_s1 (ls' := mx_put1 ls 4 (.int c)) (st' := [.int (Int8.ofInt 10).toInt32, .int c]) gz_145_19 rfl ?_
    refine ok_icF gz_145_21 (by decide +kernel) hp.1 ?_
    refine ok_iload gz_145_24 m4 rfl ?_
    refine ok_s1 (ls' := mx_put1 ls 4 (.int c)) (st' := [.int (Int8.ofInt 32).toInt32, .int c]) gz_145_26 rfl ?_
    cases h32 : mx_cmp .lt c (Int8.ofInt 32).toInt32 with
    | true => exact ok_icT gz_145_28 (by decide +kernel) h32 (fd_b_e hj m3 k)
    | false =>
      refine ok_icF gz_145_28 (by decide +kernel) h32 ?_
      refine ok_iload gz_145_31 m4 rfl ?_
      refine ok_s1 (ls' := mx_put1 ls 4 (.int c)) (st' := [.int (Int8.ofInt 126).toInt32, .int c]) gz_145_33 rfl ?_
      refine ok_icT gz_145_35 (by decide +kernel) ?_ (fd_b_e hj m3 k)
      rcases hp.2 with q | q
      · rw [h32] at q; cases q
      · exact q
  have take : fd_p c = true → ∃ (h' : mx_H) (ls' : mx_L), fd_U h' kr kt (n + 1) ∧ fd_F h h' kr kt ∧ mx_look ls' 0 = some (.ref kr) ∧ mx_look ls' 1 = some (.long V) ∧ mx_look ls' 3 = some (.int (fd_K j)) ∧ ∀ {pc2 : Nat} {ls2 : mx_L} {st2 : List Value} {h2 : mx_H} {mc ms : Nat}, mx_Ok l mz_P mz_G mz_tb rho d 145 3 ls' [] h' pc2 ls2 st2 h2 mc ms → mx_Ok l mz_P mz_G mz_tb rho d 145 3 ls [] h pc2 ls2 st2 h2 mc ms := by
    intro hp
    obtain ⟨h', g1, g2, g3⟩ := fd_b_t (l := l) (rho := rho) (d := d) hT hn m0 m4
    refine ⟨h', mx_put1 (mx_put1 ls 4 (.int c)) 3 (.int (fd_K j)), g1, g2, mx_look_put (by decide) (fun q => by cases q) m0, mx_look_put (by decide) (fun _ => by decide) m1, mx_look_self, fun k => front ?_⟩
    have k38 := g3 (fd_b_e hj m3 k)
    refine ok_iload gz_145_17 m4 rfl ?_
    refine ok_s1 (ls' := mx_put1 ls 4 (.int c)) (st' := [.int (Int8.ofInt 10).toInt32, .int c]) gz_145_19 rfl ?_
    cases h10 : mx_cmp .eq c (Int8.ofInt 10).toInt32 with
    | true => exact ok_icT gz_145_21 (by decide +kernel) h10 k38
    | false =>
      simp only [fd_p, h10, Bool.false_or, Bool.and_eq_true, Bool.not_eq_true'] at hp
      refine ok_icF gz_145_21 (by decide +kernel) h10 ?_
      refine ok_iload gz_145_24 m4 rfl ?_
      refine ok_s1 (ls' := mx_put1 ls 4 (.int c)) (st' := [.int (Int8.ofInt 32).toInt32, .int c]) gz_145_26 rfl ?_
      refine ok_icF gz_145_28 (by decide +kernel) hp.1 ?_
      refine ok_iload gz_145_31 m4 rfl ?_
      refine ok_s1 (ls' := mx_put1 ls 4 (.int c)) (st' := [.int (Int8.ofInt 126).toInt32, .int c]) gz_145_33 rfl ?_
      exact ok_icF gz_145_35 (by decide +kernel) hp.2 k38
  cases hp : fd_p c with
  | false => exact skip hp
  | true => exact take hp
/-- all turns -/
theorem fd_b_l {V : Int64} : ∀ (j : Nat), j ≤ 8 → ∀ {h : mx_H} {kr kt n : Nat} {ls : mx_L}, fd_U h kr kt n → n + j ≤ 1000 → mx_look ls 0 = some (.ref kr) → mx_look ls 1 = some (.long V) → mx_look ls 3 = some (.int (fd_K j)) →
    ∃ (h' : mx_H) (ls' : mx_L), fd_U h' kr kt (n + fd_n V j) ∧ fd_F h h' kr kt ∧ mx_Ok l mz_P mz_G mz_tb rho d 145 3 ls [] h 75 ls' [] h' 0 0
  | 0, _, h, kr, kt, n, ls, hT, _, l0, l1, l3 => by
    refine ⟨h, ls, hT, fd_F.rf, ?_⟩
    refine ok_iload_n gz_145_3 l3 rfl ?_
    exact ok_ifT gz_145_4 (by decide +kernel) fd_K0 mx_Ok.rf
  | j + 1, hj, h, kr, kt, n, ls, hT, hn, l0, l1, l3 => by
    obtain ⟨h1, ls1, g1, g2, g3, g4, g5, g6⟩ := fd_b_i (l := l) (rho := rho) (d := d) (by omega) hT (by omega) l0 l1 l3
    obtain ⟨h2, ls2, f1, f2, f3⟩ := fd_b_l (V := V) j (by omega) g1 (by split <;> omega) g3 g4 g5
    refine ⟨h2, ls2, ?_, g2.tr f2, g6 f3⟩
    rw [Nat.add_assoc] at f1
    exact f1
/-- the method -/
theorem fd_b_m {V : Int64} {h : mx_H} {kr kt n : Nat} (hT : fd_U h kr kt n) (hn : n + 8 ≤ 1000) : ∃ (h' : mx_H) (ls' : mx_L), fd_U h' kr kt (n + fd_n V 8) ∧ fd_F h h' kr kt ∧ mx_Ok l mz_P mz_G mz_tb rho d 145 0 (mx_args 0 [.ref kr, .long V]) [] h 75 ls' [] h' 0 0 := by
  obtain ⟨h', ls', g1, g2, g3⟩ := fd_b_l (l := l) (rho := rho) (d := d) (V := V) (ls := mx_put1 (mx_args 0 [.ref kr, .long V]) 3 (.int (fd_K 8))) 8 (Nat.le_refl _) hT hn rfl rfl rfl
  refine ⟨h', ls', g1, g2, ?_⟩
  refine ok_s1 (ls' := mx_args 0 [.ref kr, .long V]) (st' := [.int (Int8.ofInt 56).toInt32]) gz_145_0 rfl ?_
  rw [← fd_K8]
  exact ok_istore_n gz_145_2 (by decide +kernel) g3
end
end MZF
